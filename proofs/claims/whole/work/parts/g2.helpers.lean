/-! THE LAW: its helpers (by wip/whole/gen/lawgen.py) -/
theorem k0_9 : kd 0 = 9 := by decide +kernel
theorem k620 : kd 620 = 12 := by decide +kernel
theorem k621 : kd 621 = 14 := by decide +kernel
theorem in620 : vp_in (0 : Int32) (alen 620) := by show ¬ ((0 : Int32) < 0 ∨ alen 620 ≤ (0 : Int32).toNatClampNeg); decide +kernel
theorem in621 : vp_in (0 : Int32) (alen 621) := by show ¬ ((0 : Int32) < 0 ∨ alen 621 ≤ (0 : Int32).toNatClampNeg); decide +kernel
theorem ml_1_0 : Cond.initialized RL ∈ TB := mem_t1 0 (by decide +kernel)
theorem ml_1_1 : Cond.initialized RX10 ∈ TB := mem_t1 1 (by decide +kernel)
theorem ml_3_19 : Cond.instanceMethod yX10_state ∈ TB := mem_t3 19 (by decide +kernel)
theorem ml_3_20 : Cond.selects RX10 yX10_state yX10_state ∈ TB := mem_t3 20 (by decide +kernel)
theorem ml_3_21 : Cond.code yX10_state cX10_state 4 (some .int) ∈ TB := mem_t3 21 (by decide +kernel)
theorem ml_3_24 : Cond.castable (exN 1) (exN 1) ∈ TB := mem_t3 24 (by decide +kernel)
theorem ml_3_110 : Cond.instanceMethod yX10_quest ∈ TB := mem_t3 110 (by decide +kernel)
theorem ml_3_111 : Cond.selects RX10 yX10_quest yX10_quest ∈ TB := mem_t3 111 (by decide +kernel)
theorem ml_3_112 : Cond.code yX10_quest cX10_quest 4 (some .int) ∈ TB := mem_t3 112 (by decide +kernel)
theorem ml_3_119 : Cond.castable (exN 2) (exN 2) ∈ TB := mem_t3 119 (by decide +kernel)
theorem ml_3_146 : Cond.instanceMethod yX10_step ∈ TB := mem_t3 146 (by decide +kernel)
theorem ml_3_147 : Cond.selects RX10 yX10_step yX10_step ∈ TB := mem_t3 147 (by decide +kernel)
theorem ml_3_148 : Cond.code yX10_step cX10_step 5 (some .int) ∈ TB := mem_t3 148 (by decide +kernel)
theorem ml_3_159 : Cond.codeWith yL_load cL_load 4 (some .int) [(0, 9, 12, 13)] ∈ TB := mem_t3 159 (by decide +kernel)
theorem ml_3_160 : Cond.classLink RL 13 (exN 1) ∈ TB := mem_t3 160 (by decide +kernel)
theorem ml_3_161 : Cond.methodLink RL 7 yX10_load ∈ TB := mem_t3 161 (by decide +kernel)
theorem ml_3_162 : Cond.instanceMethod yX10_load ∈ TB := mem_t3 162 (by decide +kernel)
theorem ml_3_163 : Cond.selects RX10 yX10_load yX10_load ∈ TB := mem_t3 163 (by decide +kernel)
theorem ml_3_164 : Cond.code yX10_load cX10_load 3 (some .int) ∈ TB := mem_t3 164 (by decide +kernel)
theorem ml_5_1 : Cond.codeWith yL_state cL_state 4 (some .int) [(0, 9, 12, 13)] ∈ TB := mem_t5 1 (by decide +kernel)
theorem ml_5_2 : Cond.methodLink RL 15 yX10_state ∈ TB := mem_t5 2 (by decide +kernel)
theorem ml_5_5 : Cond.codeWith yL_stock cL_stock 4 (some .int) [(0, 9, 12, 21)] ∈ TB := mem_t5 5 (by decide +kernel)
theorem ml_5_6 : Cond.classLink RL 21 (exN 2) ∈ TB := mem_t5 6 (by decide +kernel)
theorem ml_5_7 : Cond.methodLink RL 18 yX10_stock ∈ TB := mem_t5 7 (by decide +kernel)
theorem ml_5_8 : Cond.instanceMethod yX10_stock ∈ TB := mem_t5 8 (by decide +kernel)
theorem ml_5_9 : Cond.selects RX10 yX10_stock yX10_stock ∈ TB := mem_t5 9 (by decide +kernel)
theorem ml_5_10 : Cond.code yX10_stock cX10_stock 2 (some .int) ∈ TB := mem_t5 10 (by decide +kernel)
theorem ml_5_16 : Cond.codeWith yL_quest cL_quest 5 (some .int) [(0, 10, 13, 21), (0, 10, 17, 13)] ∈ TB := mem_t5 16 (by decide +kernel)
theorem ml_5_17 : Cond.methodLink RL 23 yX10_quest ∈ TB := mem_t5 17 (by decide +kernel)
theorem ml_5_20 : Cond.codeWith yL_step cL_step 6 (some .int) [(0, 12, 15, 21), (0, 12, 19, 13)] ∈ TB := mem_t5 20 (by decide +kernel)
theorem ml_5_21 : Cond.methodLink RL 27 yX10_step ∈ TB := mem_t5 21 (by decide +kernel)
theorem ml_5_24 : Cond.codeWith yL_amount cL_amount 7 (some .int) [(0, 14, 17, 21), (0, 14, 21, 13)] ∈ TB := mem_t5 24 (by decide +kernel)
theorem ml_5_25 : Cond.methodLink RL 31 yX10_amount ∈ TB := mem_t5 25 (by decide +kernel)
theorem ml_5_26 : Cond.instanceMethod yX10_amount ∈ TB := mem_t5 26 (by decide +kernel)
theorem ml_5_27 : Cond.selects RX10 yX10_amount yX10_amount ∈ TB := mem_t5 27 (by decide +kernel)
theorem ml_5_28 : Cond.code yX10_amount cX10_amount 7 (some .int) ∈ TB := mem_t5 28 (by decide +kernel)
theorem ml_5_31 : Cond.codeWith yL_why cL_why 5 (some .int) [(0, 10, 13, 21)] ∈ TB := mem_t5 31 (by decide +kernel)
theorem ml_5_32 : Cond.methodLink RL 35 yX10_why ∈ TB := mem_t5 32 (by decide +kernel)
theorem ml_5_33 : Cond.instanceMethod yX10_why ∈ TB := mem_t5 33 (by decide +kernel)
theorem ml_5_34 : Cond.selects RX10 yX10_why yX10_why ∈ TB := mem_t5 34 (by decide +kernel)
theorem ml_5_35 : Cond.code yX10_why cX10_why 3 (some .int) ∈ TB := mem_t5 35 (by decide +kernel)
theorem ml_5_39 : Cond.codeWith yL_holds cL_holds 5 (some .int) [(0, 17, 20, 21), (0, 17, 24, 13)] ∈ TB := mem_t5 39 (by decide +kernel)
theorem ml_5_40 : Cond.methodLink RL 38 yX10_holds ∈ TB := mem_t5 40 (by decide +kernel)
theorem ml_5_41 : Cond.instanceMethod yX10_holds ∈ TB := mem_t5 41 (by decide +kernel)
theorem ml_5_42 : Cond.selects RX10 yX10_holds yX10_holds ∈ TB := mem_t5 42 (by decide +kernel)
theorem ml_5_43 : Cond.code yX10_holds cX10_holds 4 (some .boolean) ∈ TB := mem_t5 43 (by decide +kernel)
theorem ml_5_47 : Cond.codeWith yL_possible cL_possible 4 (some .int) [(0, 16, 19, 21)] ∈ TB := mem_t5 47 (by decide +kernel)
theorem ml_5_48 : Cond.methodLink RL 42 yX10_possible ∈ TB := mem_t5 48 (by decide +kernel)
theorem ml_5_49 : Cond.instanceMethod yX10_possible ∈ TB := mem_t5 49 (by decide +kernel)
theorem ml_5_50 : Cond.selects RX10 yX10_possible yX10_possible ∈ TB := mem_t5 50 (by decide +kernel)
theorem ml_5_51 : Cond.code yX10_possible cX10_possible 2 (some .boolean) ∈ TB := mem_t5 51 (by decide +kernel)
theorem ml_5_54 : Cond.codeWith yL_planLength cL_planLength 4 (some .int) [(0, 9, 12, 21)] ∈ TB := mem_t5 54 (by decide +kernel)
theorem ml_5_55 : Cond.methodLink RL 46 yX10_planLength ∈ TB := mem_t5 55 (by decide +kernel)
theorem ml_5_56 : Cond.instanceMethod yX10_planLength ∈ TB := mem_t5 56 (by decide +kernel)
theorem ml_5_57 : Cond.selects RX10 yX10_planLength yX10_planLength ∈ TB := mem_t5 57 (by decide +kernel)
theorem ml_5_58 : Cond.code yX10_planLength cX10_planLength 3 (some .int) ∈ TB := mem_t5 58 (by decide +kernel)
theorem ml_5_61 : Cond.codeWith yL_planStep cL_planStep 5 (some .int) [(0, 10, 13, 21), (0, 10, 17, 52)] ∈ TB := mem_t5 61 (by decide +kernel)
theorem ml_5_62 : Cond.classLink RL 52 (exN 4) ∈ TB := mem_t5 62 (by decide +kernel)
theorem ml_5_63 : Cond.methodLink RL 49 yX10_planStep ∈ TB := mem_t5 63 (by decide +kernel)
theorem ml_5_64 : Cond.instanceMethod yX10_planStep ∈ TB := mem_t5 64 (by decide +kernel)
theorem ml_5_65 : Cond.selects RX10 yX10_planStep yX10_planStep ∈ TB := mem_t5 65 (by decide +kernel)
theorem ml_5_66 : Cond.code yX10_planStep cX10_planStep 4 (some .int) ∈ TB := mem_t5 66 (by decide +kernel)
theorem ml_5_69 : Cond.castable (exN 4) (exN 4) ∈ TB := mem_t5 69 (by decide +kernel)
theorem ml_5_85 : Cond.codeWith yL_safest cL_safest 4 (some .int) [(0, 9, 12, 21)] ∈ TB := mem_t5 85 (by decide +kernel)
theorem ml_5_86 : Cond.methodLink RL 54 yX10_safest ∈ TB := mem_t5 86 (by decide +kernel)
theorem ml_5_87 : Cond.instanceMethod yX10_safest ∈ TB := mem_t5 87 (by decide +kernel)
theorem ml_5_88 : Cond.selects RX10 yX10_safest yX10_safest ∈ TB := mem_t5 88 (by decide +kernel)
theorem ml_5_89 : Cond.code yX10_safest cX10_safest 3 (some .int) ∈ TB := mem_t5 89 (by decide +kernel)
theorem ml_5_96 : Cond.codeWith yL_endings cL_endings 4 (some .int) [(0, 9, 12, 21)] ∈ TB := mem_t5 96 (by decide +kernel)
theorem ml_5_97 : Cond.methodLink RL 57 yX10_endings ∈ TB := mem_t5 97 (by decide +kernel)
theorem ml_5_98 : Cond.instanceMethod yX10_endings ∈ TB := mem_t5 98 (by decide +kernel)
theorem ml_5_99 : Cond.selects RX10 yX10_endings yX10_endings ∈ TB := mem_t5 99 (by decide +kernel)
theorem ml_5_100 : Cond.code yX10_endings cX10_endings 3 (some .int) ∈ TB := mem_t5 100 (by decide +kernel)
theorem ml_5_113 : Cond.codeWith yL_lacking cL_lacking 5 (some .int) [(0, 10, 13, 21)] ∈ TB := mem_t5 113 (by decide +kernel)
theorem ml_5_114 : Cond.methodLink RL 60 yX10_lacking ∈ TB := mem_t5 114 (by decide +kernel)
theorem ml_5_115 : Cond.instanceMethod yX10_lacking ∈ TB := mem_t5 115 (by decide +kernel)
theorem ml_5_116 : Cond.selects RX10 yX10_lacking yX10_lacking ∈ TB := mem_t5 116 (by decide +kernel)
theorem ml_5_117 : Cond.code yX10_lacking cX10_lacking 8 (some .int) ∈ TB := mem_t5 117 (by decide +kernel)
theorem ml_5_124 : Cond.codeWith yL_worth cL_worth 4 (some .int) [(0, 9, 12, 21)] ∈ TB := mem_t5 124 (by decide +kernel)
theorem ml_5_125 : Cond.methodLink RL 63 yX10_worth ∈ TB := mem_t5 125 (by decide +kernel)
theorem ml_5_126 : Cond.instanceMethod yX10_worth ∈ TB := mem_t5 126 (by decide +kernel)
theorem ml_5_127 : Cond.selects RX10 yX10_worth yX10_worth ∈ TB := mem_t5 127 (by decide +kernel)
theorem ml_5_128 : Cond.code yX10_worth cX10_worth 2 (some .int) ∈ TB := mem_t5 128 (by decide +kernel)
theorem ml_5_131 : Cond.codeWith yL_chance cL_chance 4 (some .int) [(0, 8, 11, 21)] ∈ TB := mem_t5 131 (by decide +kernel)
theorem ml_5_132 : Cond.methodLink RL 66 yX10_chance ∈ TB := mem_t5 132 (by decide +kernel)
theorem ml_5_133 : Cond.instanceMethod yX10_chance ∈ TB := mem_t5 133 (by decide +kernel)
theorem ml_5_134 : Cond.selects RX10 yX10_chance yX10_chance ∈ TB := mem_t5 134 (by decide +kernel)
theorem ml_5_135 : Cond.code yX10_chance cX10_chance 9 (some .double) ∈ TB := mem_t5 135 (by decide +kernel)
theorem ml_5_139 : Cond.codeWith yL_tell cL_tell 5 (some .int) [(0, 10, 13, 13), (0, 10, 17, 73)] ∈ TB := mem_t5 139 (by decide +kernel)
theorem ml_5_140 : Cond.classLink RL 73 (exN 3) ∈ TB := mem_t5 140 (by decide +kernel)
theorem ml_5_141 : Cond.methodLink RL 70 yX10_tell ∈ TB := mem_t5 141 (by decide +kernel)
theorem ml_5_142 : Cond.instanceMethod yX10_tell ∈ TB := mem_t5 142 (by decide +kernel)
theorem ml_5_143 : Cond.selects RX10 yX10_tell yX10_tell ∈ TB := mem_t5 143 (by decide +kernel)
theorem ml_5_144 : Cond.code yX10_tell cX10_tell 3 (some .int) ∈ TB := mem_t5 144 (by decide +kernel)
theorem ml_5_147 : Cond.castable (exN 3) (exN 3) ∈ TB := mem_t5 147 (by decide +kernel)
theorem ml_5_166 : Cond.codeWith yL_attempt cL_attempt 5 (some .int) [(0, 10, 13, 21), (0, 10, 17, 73)] ∈ TB := mem_t5 166 (by decide +kernel)
theorem ml_5_167 : Cond.methodLink RL 75 yX10_attempt ∈ TB := mem_t5 167 (by decide +kernel)
theorem ml_5_168 : Cond.instanceMethod yX10_attempt ∈ TB := mem_t5 168 (by decide +kernel)
theorem ml_5_169 : Cond.selects RX10 yX10_attempt yX10_attempt ∈ TB := mem_t5 169 (by decide +kernel)
theorem ml_5_170 : Cond.code yX10_attempt cX10_attempt 4 (some .int) ∈ TB := mem_t5 170 (by decide +kernel)
theorem ml_5_193 : Cond.codeWith yL_play cL_play 4 (some .int) [(0, 9, 12, 21)] ∈ TB := mem_t5 193 (by decide +kernel)
theorem ml_5_194 : Cond.methodLink RL 78 yX10_play ∈ TB := mem_t5 194 (by decide +kernel)
theorem ml_5_195 : Cond.instanceMethod yX10_play ∈ TB := mem_t5 195 (by decide +kernel)
theorem ml_5_196 : Cond.selects RX10 yX10_play yX10_play ∈ TB := mem_t5 196 (by decide +kernel)
theorem ml_5_197 : Cond.code yX10_play cX10_play 4 (some .int) ∈ TB := mem_t5 197 (by decide +kernel)
theorem ml_5_201 : Cond.codeWith yL_add cL_add 5 (some .int) [(0, 10, 13, 21), (0, 10, 17, 13), (0, 10, 21, 73)] ∈ TB := mem_t5 201 (by decide +kernel)
theorem ml_5_202 : Cond.methodLink RL 81 yX10_add ∈ TB := mem_t5 202 (by decide +kernel)
theorem ml_5_203 : Cond.instanceMethod yX10_add ∈ TB := mem_t5 203 (by decide +kernel)
theorem ml_5_204 : Cond.selects RX10 yX10_add yX10_add ∈ TB := mem_t5 204 (by decide +kernel)
theorem ml_5_205 : Cond.code yX10_add cX10_add 4 (some .int) ∈ TB := mem_t5 205 (by decide +kernel)
theorem ml_5_212 : Cond.codeWith yL_spend cL_spend 5 (some .int) [(0, 10, 13, 21), (0, 10, 17, 13), (0, 10, 21, 73)] ∈ TB := mem_t5 212 (by decide +kernel)
theorem ml_5_213 : Cond.methodLink RL 84 yX10_spend ∈ TB := mem_t5 213 (by decide +kernel)
theorem ml_5_214 : Cond.instanceMethod yX10_spend ∈ TB := mem_t5 214 (by decide +kernel)
theorem ml_5_215 : Cond.selects RX10 yX10_spend yX10_spend ∈ TB := mem_t5 215 (by decide +kernel)
theorem ml_5_216 : Cond.code yX10_spend cX10_spend 4 (some .int) ∈ TB := mem_t5 216 (by decide +kernel)
theorem ml_5_219 : Cond.codeWith yL_mend cL_mend 5 (some .int) [(0, 10, 13, 21)] ∈ TB := mem_t5 219 (by decide +kernel)
theorem ml_5_220 : Cond.methodLink RL 87 yX10_mend ∈ TB := mem_t5 220 (by decide +kernel)
theorem ml_5_221 : Cond.instanceMethod yX10_mend ∈ TB := mem_t5 221 (by decide +kernel)
theorem ml_5_222 : Cond.selects RX10 yX10_mend yX10_mend ∈ TB := mem_t5 222 (by decide +kernel)
theorem ml_5_223 : Cond.code yX10_mend cX10_mend 5 (some .int) ∈ TB := mem_t5 223 (by decide +kernel)
theorem ml_5_226 : Cond.codeWith yL_giveUp cL_giveUp 4 (some .int) [(0, 9, 12, 21), (0, 9, 15, 73)] ∈ TB := mem_t5 226 (by decide +kernel)
theorem ml_5_227 : Cond.methodLink RL 90 yX10_giveUp ∈ TB := mem_t5 227 (by decide +kernel)
theorem ml_5_228 : Cond.instanceMethod yX10_giveUp ∈ TB := mem_t5 228 (by decide +kernel)
theorem ml_5_229 : Cond.selects RX10 yX10_giveUp yX10_giveUp ∈ TB := mem_t5 229 (by decide +kernel)
theorem ml_5_230 : Cond.code yX10_giveUp cX10_giveUp 3 (some .int) ∈ TB := mem_t5 230 (by decide +kernel)
theorem ml_5_233 : Cond.codeWith yL_reopen cL_reopen 4 (some .int) [(0, 9, 12, 21)] ∈ TB := mem_t5 233 (by decide +kernel)
theorem ml_5_234 : Cond.methodLink RL 93 yX10_reopen ∈ TB := mem_t5 234 (by decide +kernel)
theorem ml_5_235 : Cond.instanceMethod yX10_reopen ∈ TB := mem_t5 235 (by decide +kernel)
theorem ml_5_236 : Cond.selects RX10 yX10_reopen yX10_reopen ∈ TB := mem_t5 236 (by decide +kernel)
theorem ml_5_237 : Cond.code yX10_reopen cX10_reopen 4 (some .int) ∈ TB := mem_t5 237 (by decide +kernel)
theorem mvL_load : ML yL_load cL_load 4 [(0, 9, 12, 13)] 3 := ⟨ml_3_159, by decide +kernel, ml_1_0, ⟨by decide +kernel, by decide +kernel, by decide +kernel⟩, by decide⟩
theorem mwL_load : MV yX10_load cX10_load 3 (some .int) 1 := ⟨ml_3_164, by decide +kernel, ml_1_1, ⟨by decide +kernel, by decide +kernel, by decide +kernel⟩, by decide⟩
set_option maxRecDepth 20000 in
set_option maxHeartbeats 4000000 in
theorem c_L_load {G : Gt} {l : Launch} {v1 : Int32} {σ : St} {r : Int32} {σ' : St} (hf : pf_X10_load 0 v1 σ = some (.inr r, σ')) : CtL G l yL_load cL_load 4 [(0, 9, 12, 13)] 33 [.ref (gz G + 0), .int v1, .ref (gz G + 620)] σ 0 (sL σ' 620 0 r.toInt64) := by
  refine met_L (by decide +kernel) (Nat.le_of_ble_eq_true rfl) ?_
  intro p e s m args below meth c Q ls hfl htab X X1 hW hret hl
  have hx := X.1.1
  have hb := X.1.2.1
  have hl : lv_has ls 4 [(0, .ref (gz G + 0)), (1, .int v1), (2, .ref (gz G + 620))] := hl
  refine lv_aload_n hx hb dL_load_0 rfl (lv_at hl 2 rfl) ?_
  refine lv_iconst (v := 0) hx hb dL_load_1 (by decide) ?_
  refine lv_aload_n hx hb dL_load_2 rfl (lv_at hl 0 rfl) ?_
  refine lv_iload_n hx hb dL_load_3 rfl (lv_at hl 1 rfl) ?_
  refine call_V1 X hW (kC_X10 k0_9) ml_3_161 ml_3_162 ml_3_163 mwL_load (c_X10_load k0_9 hf) (by decide) rfl rfl (Nat.le_of_ble_eq_true rfl) hl.1 dL_load_4 ?_
  clear hW; intro H locs hW
  refine lv_i2l hx hb dL_load_7 rfl ?_
  refine r_last X hW k620 in620 dL_load_8 ?_
  clear hW; intro H locs hW
  refine lv_goto (tgt := 15) hx hb dL_load_9 (by decide) ?_
  refine lv_iconst (v := 0) hx hb dL_load_15 (by decide) ?_
  exact hret 0 0 (Nat.zero_le _) (Nat.zero_le _) _ _ _ _ dL_load_16 hW
set_option maxRecDepth 20000 in
set_option maxHeartbeats 4000000 in
theorem x_L_load_1 {G : Gt} {l : Launch} {v1 : Int32} {σ : St} {σ' : St} (hf : pf_X10_load 0 v1 σ = some (.inl 1, σ')) : CtL G l yL_load cL_load 4 [(0, 9, 12, 13)] 33 [.ref (gz G + 0), .int v1, .ref (gz G + 620)] σ 1 σ' := by
  refine met_L (by decide +kernel) (Nat.le_of_ble_eq_true rfl) ?_
  intro p e s m args below meth c Q ls hfl htab X X1 hW hret hl
  have hx := X.1.1
  have hb := X.1.2.1
  have hl : lv_has ls 4 [(0, .ref (gz G + 0)), (1, .int v1), (2, .ref (gz G + 620))] := hl
  refine lv_aload_n hx hb dL_load_0 rfl (lv_at hl 2 rfl) ?_
  refine lv_iconst (v := 0) hx hb dL_load_1 (by decide) ?_
  refine lv_aload_n hx hb dL_load_2 rfl (lv_at hl 0 rfl) ?_
  refine lv_iload_n hx hb dL_load_3 rfl (lv_at hl 1 rfl) ?_
  refine tcall_VC X hW (kC_X10 k0_9) ml_3_161 ml_3_162 ml_3_163 mwL_load (x_X10_load k0_9 hf) hfl (by decide) rfl rfl (Nat.le_of_ble_eq_true rfl) hl.1 dL_load_4 (Nat.le_refl _) (Nat.le_refl _) ?_
  clear hW; intro H locs q ce hW hq hv hcl
  refine vx_catch (own := RL) (E := exN 1) (name := exN 1) X.1.2.2.2.1 [] ⟨0, 9, 12, 13⟩ [] (htab.trans rfl) ?_ rfl (by decide) (X.1.2.2.2.2 _ ml_3_160) (X.1.2.2.2.2 _ ml_3_24) hq hv hcl ?_
  · exact fun z hz => absurd hz List.not_mem_nil
  · refine lv_astore_n hx hb dL_load_12 rfl hl (by decide) rfl ?_
    intro ls2 hl2
    refine lv_iconst (v := 1) hx hb dL_load_13 (by decide) ?_
    exact hret 1 6 (Nat.le_refl _) (Nat.le_refl _) _ _ _ _ dL_load_14 hW
theorem mvL_state : ML yL_state cL_state 4 [(0, 9, 12, 13)] 3 := ⟨ml_5_1, by decide +kernel, ml_1_0, ⟨by decide +kernel, by decide +kernel, by decide +kernel⟩, by decide⟩
theorem mwL_state : MV yX10_state cX10_state 4 (some .int) 1 := ⟨ml_3_21, by decide +kernel, ml_1_1, ⟨by decide +kernel, by decide +kernel, by decide +kernel⟩, by decide⟩
set_option maxRecDepth 20000 in
set_option maxHeartbeats 4000000 in
theorem c_L_state {G : Gt} {l : Launch} {v1 : Int32} {σ : St} {r : Int32} {σ' : St} (hf : pf_X10_state 0 v1 σ = some (.inr r, σ')) : CtL G l yL_state cL_state 4 [(0, 9, 12, 13)] 10 [.ref (gz G + 0), .int v1, .ref (gz G + 620)] σ 0 (sL σ' 620 0 r.toInt64) := by
  refine met_L (by decide +kernel) (Nat.le_of_ble_eq_true rfl) ?_
  intro p e s m args below meth c Q ls hfl htab X X1 hW hret hl
  have hx := X.1.1
  have hb := X.1.2.1
  have hl : lv_has ls 4 [(0, .ref (gz G + 0)), (1, .int v1), (2, .ref (gz G + 620))] := hl
  refine lv_aload_n hx hb dL_state_0 rfl (lv_at hl 2 rfl) ?_
  refine lv_iconst (v := 0) hx hb dL_state_1 (by decide) ?_
  refine lv_aload_n hx hb dL_state_2 rfl (lv_at hl 0 rfl) ?_
  refine lv_iload_n hx hb dL_state_3 rfl (lv_at hl 1 rfl) ?_
  refine call_V1 X hW (kC_X10 k0_9) ml_5_2 ml_3_19 ml_3_20 mwL_state (c_X10_state k0_9 hf) (by decide) rfl rfl (Nat.le_of_ble_eq_true rfl) hl.1 dL_state_4 ?_
  clear hW; intro H locs hW
  refine lv_i2l hx hb dL_state_7 rfl ?_
  refine r_last X hW k620 in620 dL_state_8 ?_
  clear hW; intro H locs hW
  refine lv_goto (tgt := 15) hx hb dL_state_9 (by decide) ?_
  refine lv_iconst (v := 0) hx hb dL_state_15 (by decide) ?_
  exact hret 0 0 (Nat.zero_le _) (Nat.zero_le _) _ _ _ _ dL_state_16 hW
set_option maxRecDepth 20000 in
set_option maxHeartbeats 4000000 in
theorem x_L_state_1 {G : Gt} {l : Launch} {v1 : Int32} {σ : St} {σ' : St} (hf : pf_X10_state 0 v1 σ = some (.inl 1, σ')) : CtL G l yL_state cL_state 4 [(0, 9, 12, 13)] 10 [.ref (gz G + 0), .int v1, .ref (gz G + 620)] σ 1 σ' := by
  refine met_L (by decide +kernel) (Nat.le_of_ble_eq_true rfl) ?_
  intro p e s m args below meth c Q ls hfl htab X X1 hW hret hl
  have hx := X.1.1
  have hb := X.1.2.1
  have hl : lv_has ls 4 [(0, .ref (gz G + 0)), (1, .int v1), (2, .ref (gz G + 620))] := hl
  refine lv_aload_n hx hb dL_state_0 rfl (lv_at hl 2 rfl) ?_
  refine lv_iconst (v := 0) hx hb dL_state_1 (by decide) ?_
  refine lv_aload_n hx hb dL_state_2 rfl (lv_at hl 0 rfl) ?_
  refine lv_iload_n hx hb dL_state_3 rfl (lv_at hl 1 rfl) ?_
  refine tcall_VC X hW (kC_X10 k0_9) ml_5_2 ml_3_19 ml_3_20 mwL_state (x_X10_state k0_9 hf) hfl (by decide) rfl rfl (Nat.le_of_ble_eq_true rfl) hl.1 dL_state_4 (Nat.le_refl _) (Nat.le_refl _) ?_
  clear hW; intro H locs q ce hW hq hv hcl
  refine vx_catch (own := RL) (E := exN 1) (name := exN 1) X.1.2.2.2.1 [] ⟨0, 9, 12, 13⟩ [] (htab.trans rfl) ?_ rfl (by decide) (X.1.2.2.2.2 _ ml_3_160) (X.1.2.2.2.2 _ ml_3_24) hq hv hcl ?_
  · exact fun z hz => absurd hz List.not_mem_nil
  · refine lv_astore_n hx hb dL_state_12 rfl hl (by decide) rfl ?_
    intro ls2 hl2
    refine lv_iconst (v := 1) hx hb dL_state_13 (by decide) ?_
    exact hret 1 6 (Nat.le_refl _) (Nat.le_refl _) _ _ _ _ dL_state_14 hW
theorem mvL_stock : ML yL_stock cL_stock 4 [(0, 9, 12, 21)] 3 := ⟨ml_5_5, by decide +kernel, ml_1_0, ⟨by decide +kernel, by decide +kernel, by decide +kernel⟩, by decide⟩
theorem mwL_stock : MV yX10_stock cX10_stock 2 (some .int) 1 := ⟨ml_5_10, by decide +kernel, ml_1_1, ⟨by decide +kernel, by decide +kernel, by decide +kernel⟩, by decide⟩
set_option maxRecDepth 20000 in
set_option maxHeartbeats 4000000 in
theorem c_L_stock {G : Gt} {l : Launch} {v1 : Int32} {σ : St} {r : Int32} (hf : pf_X10_stock 0 v1 σ = some (.inr r)) : CtL G l yL_stock cL_stock 4 [(0, 9, 12, 21)] 10 [.ref (gz G + 0), .int v1, .ref (gz G + 620)] σ 0 (sL σ 620 0 r.toInt64) := by
  refine met_L (by decide +kernel) (Nat.le_of_ble_eq_true rfl) ?_
  intro p e s m args below meth c Q ls hfl htab X X1 hW hret hl
  have hx := X.1.1
  have hb := X.1.2.1
  have hl : lv_has ls 4 [(0, .ref (gz G + 0)), (1, .int v1), (2, .ref (gz G + 620))] := hl
  refine lv_aload_n hx hb dL_stock_0 rfl (lv_at hl 2 rfl) ?_
  refine lv_iconst (v := 0) hx hb dL_stock_1 (by decide) ?_
  refine lv_aload_n hx hb dL_stock_2 rfl (lv_at hl 0 rfl) ?_
  refine lv_iload_n hx hb dL_stock_3 rfl (lv_at hl 1 rfl) ?_
  refine call_V1 X hW (kC_X10 k0_9) ml_5_7 ml_5_8 ml_5_9 mwL_stock (c_X10_stock k0_9 hf) (by decide) rfl rfl (Nat.le_of_ble_eq_true rfl) hl.1 dL_stock_4 ?_
  clear hW; intro H locs hW
  refine lv_i2l hx hb dL_stock_7 rfl ?_
  refine r_last X hW k620 in620 dL_stock_8 ?_
  clear hW; intro H locs hW
  refine lv_goto (tgt := 15) hx hb dL_stock_9 (by decide) ?_
  refine lv_iconst (v := 0) hx hb dL_stock_15 (by decide) ?_
  exact hret 0 0 (Nat.zero_le _) (Nat.zero_le _) _ _ _ _ dL_stock_16 hW
set_option maxRecDepth 20000 in
set_option maxHeartbeats 4000000 in
theorem x_L_stock_2 {G : Gt} {l : Launch} {v1 : Int32} {σ : St} (hf : pf_X10_stock 0 v1 σ = some (.inl 2)) : CtL G l yL_stock cL_stock 4 [(0, 9, 12, 21)] 10 [.ref (gz G + 0), .int v1, .ref (gz G + 620)] σ 1 σ := by
  refine met_L (by decide +kernel) (Nat.le_of_ble_eq_true rfl) ?_
  intro p e s m args below meth c Q ls hfl htab X X1 hW hret hl
  have hx := X.1.1
  have hb := X.1.2.1
  have hl : lv_has ls 4 [(0, .ref (gz G + 0)), (1, .int v1), (2, .ref (gz G + 620))] := hl
  refine lv_aload_n hx hb dL_stock_0 rfl (lv_at hl 2 rfl) ?_
  refine lv_iconst (v := 0) hx hb dL_stock_1 (by decide) ?_
  refine lv_aload_n hx hb dL_stock_2 rfl (lv_at hl 0 rfl) ?_
  refine lv_iload_n hx hb dL_stock_3 rfl (lv_at hl 1 rfl) ?_
  refine tcall_VC X hW (kC_X10 k0_9) ml_5_7 ml_5_8 ml_5_9 mwL_stock (x_X10_stock k0_9 hf) hfl (by decide) rfl rfl (Nat.le_of_ble_eq_true rfl) hl.1 dL_stock_4 (Nat.le_refl _) (Nat.le_refl _) ?_
  clear hW; intro H locs q ce hW hq hv hcl
  refine vx_catch (own := RL) (E := exN 2) (name := exN 2) X.1.2.2.2.1 [] ⟨0, 9, 12, 21⟩ [] (htab.trans rfl) ?_ rfl (by decide) (X.1.2.2.2.2 _ ml_5_6) (X.1.2.2.2.2 _ ml_3_119) hq hv hcl ?_
  · exact fun z hz => absurd hz List.not_mem_nil
  · refine lv_astore_n hx hb dL_stock_12 rfl hl (by decide) rfl ?_
    intro ls2 hl2
    refine lv_iconst (v := 1) hx hb dL_stock_13 (by decide) ?_
    exact hret 1 6 (Nat.le_refl _) (Nat.le_refl _) _ _ _ _ dL_stock_14 hW
theorem mvL_quest : ML yL_quest cL_quest 5 [(0, 10, 13, 21), (0, 10, 17, 13)] 4 := ⟨ml_5_16, by decide +kernel, ml_1_0, ⟨by decide +kernel, by decide +kernel, by decide +kernel⟩, by decide⟩
theorem mwL_quest : MV yX10_quest cX10_quest 4 (some .int) 2 := ⟨ml_3_112, by decide +kernel, ml_1_1, ⟨by decide +kernel, by decide +kernel, by decide +kernel⟩, by decide⟩
set_option maxRecDepth 20000 in
set_option maxHeartbeats 4000000 in
theorem c_L_quest {G : Gt} {l : Launch} {v1 : Int32} {v2 : Int32} {σ : St} {r : Int32} (hf : pf_X10_quest 0 v1 v2 σ = some (.inr r)) : CtL G l yL_quest cL_quest 5 [(0, 10, 13, 21), (0, 10, 17, 13)] 10 [.ref (gz G + 0), .int v1, .int v2, .ref (gz G + 620)] σ 0 (sL σ 620 0 r.toInt64) := by
  refine met_L (by decide +kernel) (Nat.le_of_ble_eq_true rfl) ?_
  intro p e s m args below meth c Q ls hfl htab X X1 hW hret hl
  have hx := X.1.1
  have hb := X.1.2.1
  have hl : lv_has ls 5 [(0, .ref (gz G + 0)), (1, .int v1), (2, .int v2), (3, .ref (gz G + 620))] := hl
  refine lv_aload_n hx hb dL_quest_0 rfl (lv_at hl 3 rfl) ?_
  refine lv_iconst (v := 0) hx hb dL_quest_1 (by decide) ?_
  refine lv_aload_n hx hb dL_quest_2 rfl (lv_at hl 0 rfl) ?_
  refine lv_iload_n hx hb dL_quest_3 rfl (lv_at hl 1 rfl) ?_
  refine lv_iload_n hx hb dL_quest_4 rfl (lv_at hl 2 rfl) ?_
  refine call_V1 X hW (kC_X10 k0_9) ml_5_17 ml_3_110 ml_3_111 mwL_quest (c_X10_quest k0_9 hf) (by decide) rfl rfl (Nat.le_of_ble_eq_true rfl) hl.1 dL_quest_5 ?_
  clear hW; intro H locs hW
  refine lv_i2l hx hb dL_quest_8 rfl ?_
  refine r_last X hW k620 in620 dL_quest_9 ?_
  clear hW; intro H locs hW
  refine lv_goto (tgt := 21) hx hb dL_quest_10 (by decide) ?_
  refine lv_iconst (v := 0) hx hb dL_quest_21 (by decide) ?_
  exact hret 0 0 (Nat.zero_le _) (Nat.zero_le _) _ _ _ _ dL_quest_22 hW
set_option maxRecDepth 20000 in
set_option maxHeartbeats 4000000 in
theorem x_L_quest_2 {G : Gt} {l : Launch} {v1 : Int32} {v2 : Int32} {σ : St} (hf : pf_X10_quest 0 v1 v2 σ = some (.inl 2)) : CtL G l yL_quest cL_quest 5 [(0, 10, 13, 21), (0, 10, 17, 13)] 10 [.ref (gz G + 0), .int v1, .int v2, .ref (gz G + 620)] σ 1 σ := by
  refine met_L (by decide +kernel) (Nat.le_of_ble_eq_true rfl) ?_
  intro p e s m args below meth c Q ls hfl htab X X1 hW hret hl
  have hx := X.1.1
  have hb := X.1.2.1
  have hl : lv_has ls 5 [(0, .ref (gz G + 0)), (1, .int v1), (2, .int v2), (3, .ref (gz G + 620))] := hl
  refine lv_aload_n hx hb dL_quest_0 rfl (lv_at hl 3 rfl) ?_
  refine lv_iconst (v := 0) hx hb dL_quest_1 (by decide) ?_
  refine lv_aload_n hx hb dL_quest_2 rfl (lv_at hl 0 rfl) ?_
  refine lv_iload_n hx hb dL_quest_3 rfl (lv_at hl 1 rfl) ?_
  refine lv_iload_n hx hb dL_quest_4 rfl (lv_at hl 2 rfl) ?_
  refine tcall_VC X hW (kC_X10 k0_9) ml_5_17 ml_3_110 ml_3_111 mwL_quest (x_X10_quest k0_9 hf) hfl (by decide) rfl rfl (Nat.le_of_ble_eq_true rfl) hl.1 dL_quest_5 (Nat.le_refl _) (Nat.le_refl _) ?_
  clear hW; intro H locs q ce hW hq hv hcl
  refine vx_catch (own := RL) (E := exN 2) (name := exN 2) X.1.2.2.2.1 [] ⟨0, 10, 13, 21⟩ [⟨0, 10, 17, 13⟩] (htab.trans rfl) ?_ rfl (by decide) (X.1.2.2.2.2 _ ml_5_6) (X.1.2.2.2.2 _ ml_3_119) hq hv hcl ?_
  · exact fun z hz => absurd hz List.not_mem_nil
  · refine lv_astore hx hb dL_quest_13 hl (by decide) rfl ?_
    intro ls2 hl2
    refine lv_iconst (v := 1) hx hb dL_quest_15 (by decide) ?_
    exact hret 1 6 (Nat.le_refl _) (Nat.le_refl _) _ _ _ _ dL_quest_16 hW
set_option maxRecDepth 20000 in
set_option maxHeartbeats 4000000 in
theorem x_L_quest_1 {G : Gt} {l : Launch} {v1 : Int32} {v2 : Int32} {σ : St} (hf : pf_X10_quest 0 v1 v2 σ = some (.inl 1)) : CtL G l yL_quest cL_quest 5 [(0, 10, 13, 21), (0, 10, 17, 13)] 10 [.ref (gz G + 0), .int v1, .int v2, .ref (gz G + 620)] σ 2 σ := by
  refine met_L (by decide +kernel) (Nat.le_of_ble_eq_true rfl) ?_
  intro p e s m args below meth c Q ls hfl htab X X1 hW hret hl
  have hx := X.1.1
  have hb := X.1.2.1
  have hl : lv_has ls 5 [(0, .ref (gz G + 0)), (1, .int v1), (2, .int v2), (3, .ref (gz G + 620))] := hl
  refine lv_aload_n hx hb dL_quest_0 rfl (lv_at hl 3 rfl) ?_
  refine lv_iconst (v := 0) hx hb dL_quest_1 (by decide) ?_
  refine lv_aload_n hx hb dL_quest_2 rfl (lv_at hl 0 rfl) ?_
  refine lv_iload_n hx hb dL_quest_3 rfl (lv_at hl 1 rfl) ?_
  refine lv_iload_n hx hb dL_quest_4 rfl (lv_at hl 2 rfl) ?_
  refine tcall_VC X hW (kC_X10 k0_9) ml_5_17 ml_3_110 ml_3_111 mwL_quest (x_X10_quest k0_9 hf) hfl (by decide) rfl rfl (Nat.le_of_ble_eq_true rfl) hl.1 dL_quest_5 (Nat.le_refl _) (Nat.le_refl _) ?_
  clear hW; intro H locs q ce hW hq hv hcl
  refine vx_catch (own := RL) (E := exN 1) (name := exN 1) X.1.2.2.2.1 [⟨0, 10, 13, 21⟩] ⟨0, 10, 17, 13⟩ [] (htab.trans rfl) ?_ rfl (by decide) (X.1.2.2.2.2 _ ml_3_160) (X.1.2.2.2.2 _ ml_3_24) hq hv hcl ?_
  · have hN := X.2.1.2.2.2.2.2.2.2.2.2.2.2.2
    intro z hz
    rw [List.mem_singleton] at hz
    subst hz
    exact Or.inr ⟨by decide, exN 2, X.1.2.2.2.2 _ ml_5_6, hN 1 2 (by omega) (by omega) (by omega) (by omega) (by omega)⟩
  · refine lv_astore hx hb dL_quest_17 hl (by decide) rfl ?_
    intro ls2 hl2
    refine lv_iconst (v := 2) hx hb dL_quest_19 (by decide) ?_
    exact hret 1 6 (Nat.le_refl _) (Nat.le_refl _) _ _ _ _ dL_quest_20 hW
theorem mvL_step : ML yL_step cL_step 6 [(0, 12, 15, 21), (0, 12, 19, 13)] 5 := ⟨ml_5_20, by decide +kernel, ml_1_0, ⟨by decide +kernel, by decide +kernel, by decide +kernel⟩, by decide⟩
theorem mwL_step : MV yX10_step cX10_step 5 (some .int) 3 := ⟨ml_3_148, by decide +kernel, ml_1_1, ⟨by decide +kernel, by decide +kernel, by decide +kernel⟩, by decide⟩
set_option maxRecDepth 20000 in
set_option maxHeartbeats 4000000 in
theorem c_L_step {G : Gt} {l : Launch} {v1 : Int32} {v2 : Int32} {v3 : Int32} {σ : St} {r : Int32} (hf : pf_X10_step 0 v1 v2 v3 σ = some (.inr r)) : CtL G l yL_step cL_step 6 [(0, 12, 15, 21), (0, 12, 19, 13)] 11 [.ref (gz G + 0), .int v1, .int v2, .int v3, .ref (gz G + 620)] σ 0 (sL σ 620 0 r.toInt64) := by
  refine met_L (by decide +kernel) (Nat.le_of_ble_eq_true rfl) ?_
  intro p e s m args below meth c Q ls hfl htab X X1 hW hret hl
  have hx := X.1.1
  have hb := X.1.2.1
  have hl : lv_has ls 6 [(0, .ref (gz G + 0)), (1, .int v1), (2, .int v2), (3, .int v3), (4, .ref (gz G + 620))] := hl
  refine lv_aload hx hb dL_step_0 (lv_at hl 4 rfl) ?_
  refine lv_iconst (v := 0) hx hb dL_step_2 (by decide) ?_
  refine lv_aload_n hx hb dL_step_3 rfl (lv_at hl 0 rfl) ?_
  refine lv_iload_n hx hb dL_step_4 rfl (lv_at hl 1 rfl) ?_
  refine lv_iload_n hx hb dL_step_5 rfl (lv_at hl 2 rfl) ?_
  refine lv_iload_n hx hb dL_step_6 rfl (lv_at hl 3 rfl) ?_
  refine call_V1 X hW (kC_X10 k0_9) ml_5_21 ml_3_146 ml_3_147 mwL_step (c_X10_step k0_9 hf) (by decide) rfl rfl (Nat.le_of_ble_eq_true rfl) hl.1 dL_step_7 ?_
  clear hW; intro H locs hW
  refine lv_i2l hx hb dL_step_10 rfl ?_
  refine r_last X hW k620 in620 dL_step_11 ?_
  clear hW; intro H locs hW
  refine lv_goto (tgt := 23) hx hb dL_step_12 (by decide) ?_
  refine lv_iconst (v := 0) hx hb dL_step_23 (by decide) ?_
  exact hret 0 0 (Nat.zero_le _) (Nat.zero_le _) _ _ _ _ dL_step_24 hW
set_option maxRecDepth 20000 in
set_option maxHeartbeats 4000000 in
theorem x_L_step_2 {G : Gt} {l : Launch} {v1 : Int32} {v2 : Int32} {v3 : Int32} {σ : St} (hf : pf_X10_step 0 v1 v2 v3 σ = some (.inl 2)) : CtL G l yL_step cL_step 6 [(0, 12, 15, 21), (0, 12, 19, 13)] 11 [.ref (gz G + 0), .int v1, .int v2, .int v3, .ref (gz G + 620)] σ 1 σ := by
  refine met_L (by decide +kernel) (Nat.le_of_ble_eq_true rfl) ?_
  intro p e s m args below meth c Q ls hfl htab X X1 hW hret hl
  have hx := X.1.1
  have hb := X.1.2.1
  have hl : lv_has ls 6 [(0, .ref (gz G + 0)), (1, .int v1), (2, .int v2), (3, .int v3), (4, .ref (gz G + 620))] := hl
  refine lv_aload hx hb dL_step_0 (lv_at hl 4 rfl) ?_
  refine lv_iconst (v := 0) hx hb dL_step_2 (by decide) ?_
  refine lv_aload_n hx hb dL_step_3 rfl (lv_at hl 0 rfl) ?_
  refine lv_iload_n hx hb dL_step_4 rfl (lv_at hl 1 rfl) ?_
  refine lv_iload_n hx hb dL_step_5 rfl (lv_at hl 2 rfl) ?_
  refine lv_iload_n hx hb dL_step_6 rfl (lv_at hl 3 rfl) ?_
  refine tcall_VC X hW (kC_X10 k0_9) ml_5_21 ml_3_146 ml_3_147 mwL_step (x_X10_step k0_9 hf) hfl (by decide) rfl rfl (Nat.le_of_ble_eq_true rfl) hl.1 dL_step_7 (Nat.le_refl _) (Nat.le_refl _) ?_
  clear hW; intro H locs q ce hW hq hv hcl
  refine vx_catch (own := RL) (E := exN 2) (name := exN 2) X.1.2.2.2.1 [] ⟨0, 12, 15, 21⟩ [⟨0, 12, 19, 13⟩] (htab.trans rfl) ?_ rfl (by decide) (X.1.2.2.2.2 _ ml_5_6) (X.1.2.2.2.2 _ ml_3_119) hq hv hcl ?_
  · exact fun z hz => absurd hz List.not_mem_nil
  · refine lv_astore hx hb dL_step_15 hl (by decide) rfl ?_
    intro ls2 hl2
    refine lv_iconst (v := 1) hx hb dL_step_17 (by decide) ?_
    exact hret 1 6 (Nat.le_refl _) (Nat.le_refl _) _ _ _ _ dL_step_18 hW
set_option maxRecDepth 20000 in
set_option maxHeartbeats 4000000 in
theorem x_L_step_1 {G : Gt} {l : Launch} {v1 : Int32} {v2 : Int32} {v3 : Int32} {σ : St} (hf : pf_X10_step 0 v1 v2 v3 σ = some (.inl 1)) : CtL G l yL_step cL_step 6 [(0, 12, 15, 21), (0, 12, 19, 13)] 11 [.ref (gz G + 0), .int v1, .int v2, .int v3, .ref (gz G + 620)] σ 2 σ := by
  refine met_L (by decide +kernel) (Nat.le_of_ble_eq_true rfl) ?_
  intro p e s m args below meth c Q ls hfl htab X X1 hW hret hl
  have hx := X.1.1
  have hb := X.1.2.1
  have hl : lv_has ls 6 [(0, .ref (gz G + 0)), (1, .int v1), (2, .int v2), (3, .int v3), (4, .ref (gz G + 620))] := hl
  refine lv_aload hx hb dL_step_0 (lv_at hl 4 rfl) ?_
  refine lv_iconst (v := 0) hx hb dL_step_2 (by decide) ?_
  refine lv_aload_n hx hb dL_step_3 rfl (lv_at hl 0 rfl) ?_
  refine lv_iload_n hx hb dL_step_4 rfl (lv_at hl 1 rfl) ?_
  refine lv_iload_n hx hb dL_step_5 rfl (lv_at hl 2 rfl) ?_
  refine lv_iload_n hx hb dL_step_6 rfl (lv_at hl 3 rfl) ?_
  refine tcall_VC X hW (kC_X10 k0_9) ml_5_21 ml_3_146 ml_3_147 mwL_step (x_X10_step k0_9 hf) hfl (by decide) rfl rfl (Nat.le_of_ble_eq_true rfl) hl.1 dL_step_7 (Nat.le_refl _) (Nat.le_refl _) ?_
  clear hW; intro H locs q ce hW hq hv hcl
  refine vx_catch (own := RL) (E := exN 1) (name := exN 1) X.1.2.2.2.1 [⟨0, 12, 15, 21⟩] ⟨0, 12, 19, 13⟩ [] (htab.trans rfl) ?_ rfl (by decide) (X.1.2.2.2.2 _ ml_3_160) (X.1.2.2.2.2 _ ml_3_24) hq hv hcl ?_
  · have hN := X.2.1.2.2.2.2.2.2.2.2.2.2.2.2
    intro z hz
    rw [List.mem_singleton] at hz
    subst hz
    exact Or.inr ⟨by decide, exN 2, X.1.2.2.2.2 _ ml_5_6, hN 1 2 (by omega) (by omega) (by omega) (by omega) (by omega)⟩
  · refine lv_astore hx hb dL_step_19 hl (by decide) rfl ?_
    intro ls2 hl2
    refine lv_iconst (v := 2) hx hb dL_step_21 (by decide) ?_
    exact hret 1 6 (Nat.le_refl _) (Nat.le_refl _) _ _ _ _ dL_step_22 hW
theorem mvL_amount : ML yL_amount cL_amount 7 [(0, 14, 17, 21), (0, 14, 21, 13)] 6 := ⟨ml_5_24, by decide +kernel, ml_1_0, ⟨by decide +kernel, by decide +kernel, by decide +kernel⟩, by decide⟩
theorem mwL_amount : MV yX10_amount cX10_amount 7 (some .int) 4 := ⟨ml_5_28, by decide +kernel, ml_1_1, ⟨by decide +kernel, by decide +kernel, by decide +kernel⟩, by decide⟩
set_option maxRecDepth 20000 in
set_option maxHeartbeats 4000000 in
theorem c_L_amount {G : Gt} {l : Launch} {v1 : Int32} {v2 : Int32} {v3 : Int32} {v4 : Int32} {σ : St} {r : Int32} (hf : pf_X10_amount 0 v1 v2 v3 v4 σ = some (.inr r)) : CtL G l yL_amount cL_amount 7 [(0, 14, 17, 21), (0, 14, 21, 13)] 11 [.ref (gz G + 0), .int v1, .int v2, .int v3, .int v4, .ref (gz G + 620)] σ 0 (sL σ 620 0 r.toInt64) := by
  refine met_L (by decide +kernel) (Nat.le_of_ble_eq_true rfl) ?_
  intro p e s m args below meth c Q ls hfl htab X X1 hW hret hl
  have hx := X.1.1
  have hb := X.1.2.1
  have hl : lv_has ls 7 [(0, .ref (gz G + 0)), (1, .int v1), (2, .int v2), (3, .int v3), (4, .int v4), (5, .ref (gz G + 620))] := hl
  refine lv_aload hx hb dL_amount_0 (lv_at hl 5 rfl) ?_
  refine lv_iconst (v := 0) hx hb dL_amount_2 (by decide) ?_
  refine lv_aload_n hx hb dL_amount_3 rfl (lv_at hl 0 rfl) ?_
  refine lv_iload_n hx hb dL_amount_4 rfl (lv_at hl 1 rfl) ?_
  refine lv_iload_n hx hb dL_amount_5 rfl (lv_at hl 2 rfl) ?_
  refine lv_iload_n hx hb dL_amount_6 rfl (lv_at hl 3 rfl) ?_
  refine lv_iload hx hb dL_amount_7 (lv_at hl 4 rfl) ?_
  refine call_V1 X hW (kC_X10 k0_9) ml_5_25 ml_5_26 ml_5_27 mwL_amount (c_X10_amount k0_9 hf) (by decide) rfl rfl (Nat.le_of_ble_eq_true rfl) hl.1 dL_amount_9 ?_
  clear hW; intro H locs hW
  refine lv_i2l hx hb dL_amount_12 rfl ?_
  refine r_last X hW k620 in620 dL_amount_13 ?_
  clear hW; intro H locs hW
  refine lv_goto (tgt := 25) hx hb dL_amount_14 (by decide) ?_
  refine lv_iconst (v := 0) hx hb dL_amount_25 (by decide) ?_
  exact hret 0 0 (Nat.zero_le _) (Nat.zero_le _) _ _ _ _ dL_amount_26 hW
set_option maxRecDepth 20000 in
set_option maxHeartbeats 4000000 in
theorem x_L_amount_2 {G : Gt} {l : Launch} {v1 : Int32} {v2 : Int32} {v3 : Int32} {v4 : Int32} {σ : St} (hf : pf_X10_amount 0 v1 v2 v3 v4 σ = some (.inl 2)) : CtL G l yL_amount cL_amount 7 [(0, 14, 17, 21), (0, 14, 21, 13)] 11 [.ref (gz G + 0), .int v1, .int v2, .int v3, .int v4, .ref (gz G + 620)] σ 1 σ := by
  refine met_L (by decide +kernel) (Nat.le_of_ble_eq_true rfl) ?_
  intro p e s m args below meth c Q ls hfl htab X X1 hW hret hl
  have hx := X.1.1
  have hb := X.1.2.1
  have hl : lv_has ls 7 [(0, .ref (gz G + 0)), (1, .int v1), (2, .int v2), (3, .int v3), (4, .int v4), (5, .ref (gz G + 620))] := hl
  refine lv_aload hx hb dL_amount_0 (lv_at hl 5 rfl) ?_
  refine lv_iconst (v := 0) hx hb dL_amount_2 (by decide) ?_
  refine lv_aload_n hx hb dL_amount_3 rfl (lv_at hl 0 rfl) ?_
  refine lv_iload_n hx hb dL_amount_4 rfl (lv_at hl 1 rfl) ?_
  refine lv_iload_n hx hb dL_amount_5 rfl (lv_at hl 2 rfl) ?_
  refine lv_iload_n hx hb dL_amount_6 rfl (lv_at hl 3 rfl) ?_
  refine lv_iload hx hb dL_amount_7 (lv_at hl 4 rfl) ?_
  refine tcall_VC X hW (kC_X10 k0_9) ml_5_25 ml_5_26 ml_5_27 mwL_amount (x_X10_amount k0_9 hf) hfl (by decide) rfl rfl (Nat.le_of_ble_eq_true rfl) hl.1 dL_amount_9 (Nat.le_refl _) (Nat.le_refl _) ?_
  clear hW; intro H locs q ce hW hq hv hcl
  refine vx_catch (own := RL) (E := exN 2) (name := exN 2) X.1.2.2.2.1 [] ⟨0, 14, 17, 21⟩ [⟨0, 14, 21, 13⟩] (htab.trans rfl) ?_ rfl (by decide) (X.1.2.2.2.2 _ ml_5_6) (X.1.2.2.2.2 _ ml_3_119) hq hv hcl ?_
  · exact fun z hz => absurd hz List.not_mem_nil
  · refine lv_astore hx hb dL_amount_17 hl (by decide) rfl ?_
    intro ls2 hl2
    refine lv_iconst (v := 1) hx hb dL_amount_19 (by decide) ?_
    exact hret 1 6 (Nat.le_refl _) (Nat.le_refl _) _ _ _ _ dL_amount_20 hW
set_option maxRecDepth 20000 in
set_option maxHeartbeats 4000000 in
theorem x_L_amount_1 {G : Gt} {l : Launch} {v1 : Int32} {v2 : Int32} {v3 : Int32} {v4 : Int32} {σ : St} (hf : pf_X10_amount 0 v1 v2 v3 v4 σ = some (.inl 1)) : CtL G l yL_amount cL_amount 7 [(0, 14, 17, 21), (0, 14, 21, 13)] 11 [.ref (gz G + 0), .int v1, .int v2, .int v3, .int v4, .ref (gz G + 620)] σ 2 σ := by
  refine met_L (by decide +kernel) (Nat.le_of_ble_eq_true rfl) ?_
  intro p e s m args below meth c Q ls hfl htab X X1 hW hret hl
  have hx := X.1.1
  have hb := X.1.2.1
  have hl : lv_has ls 7 [(0, .ref (gz G + 0)), (1, .int v1), (2, .int v2), (3, .int v3), (4, .int v4), (5, .ref (gz G + 620))] := hl
  refine lv_aload hx hb dL_amount_0 (lv_at hl 5 rfl) ?_
  refine lv_iconst (v := 0) hx hb dL_amount_2 (by decide) ?_
  refine lv_aload_n hx hb dL_amount_3 rfl (lv_at hl 0 rfl) ?_
  refine lv_iload_n hx hb dL_amount_4 rfl (lv_at hl 1 rfl) ?_
  refine lv_iload_n hx hb dL_amount_5 rfl (lv_at hl 2 rfl) ?_
  refine lv_iload_n hx hb dL_amount_6 rfl (lv_at hl 3 rfl) ?_
  refine lv_iload hx hb dL_amount_7 (lv_at hl 4 rfl) ?_
  refine tcall_VC X hW (kC_X10 k0_9) ml_5_25 ml_5_26 ml_5_27 mwL_amount (x_X10_amount k0_9 hf) hfl (by decide) rfl rfl (Nat.le_of_ble_eq_true rfl) hl.1 dL_amount_9 (Nat.le_refl _) (Nat.le_refl _) ?_
  clear hW; intro H locs q ce hW hq hv hcl
  refine vx_catch (own := RL) (E := exN 1) (name := exN 1) X.1.2.2.2.1 [⟨0, 14, 17, 21⟩] ⟨0, 14, 21, 13⟩ [] (htab.trans rfl) ?_ rfl (by decide) (X.1.2.2.2.2 _ ml_3_160) (X.1.2.2.2.2 _ ml_3_24) hq hv hcl ?_
  · have hN := X.2.1.2.2.2.2.2.2.2.2.2.2.2.2
    intro z hz
    rw [List.mem_singleton] at hz
    subst hz
    exact Or.inr ⟨by decide, exN 2, X.1.2.2.2.2 _ ml_5_6, hN 1 2 (by omega) (by omega) (by omega) (by omega) (by omega)⟩
  · refine lv_astore hx hb dL_amount_21 hl (by decide) rfl ?_
    intro ls2 hl2
    refine lv_iconst (v := 2) hx hb dL_amount_23 (by decide) ?_
    exact hret 1 6 (Nat.le_refl _) (Nat.le_refl _) _ _ _ _ dL_amount_24 hW
theorem mvL_why : ML yL_why cL_why 5 [(0, 10, 13, 21)] 4 := ⟨ml_5_31, by decide +kernel, ml_1_0, ⟨by decide +kernel, by decide +kernel, by decide +kernel⟩, by decide⟩
theorem mwL_why : MV yX10_why cX10_why 3 (some .int) 2 := ⟨ml_5_35, by decide +kernel, ml_1_1, ⟨by decide +kernel, by decide +kernel, by decide +kernel⟩, by decide⟩
set_option maxRecDepth 20000 in
set_option maxHeartbeats 4000000 in
theorem c_L_why {G : Gt} {l : Launch} {v1 : Int32} {v2 : Int32} {σ : St} {r : Int32} (hf : pf_X10_why 0 v1 v2 σ = some (.inr r)) : CtL G l yL_why cL_why 5 [(0, 10, 13, 21)] 11 [.ref (gz G + 0), .int v1, .int v2, .ref (gz G + 620)] σ 0 (sL σ 620 0 r.toInt64) := by
  refine met_L (by decide +kernel) (Nat.le_of_ble_eq_true rfl) ?_
  intro p e s m args below meth c Q ls hfl htab X X1 hW hret hl
  have hx := X.1.1
  have hb := X.1.2.1
  have hl : lv_has ls 5 [(0, .ref (gz G + 0)), (1, .int v1), (2, .int v2), (3, .ref (gz G + 620))] := hl
  refine lv_aload_n hx hb dL_why_0 rfl (lv_at hl 3 rfl) ?_
  refine lv_iconst (v := 0) hx hb dL_why_1 (by decide) ?_
  refine lv_aload_n hx hb dL_why_2 rfl (lv_at hl 0 rfl) ?_
  refine lv_iload_n hx hb dL_why_3 rfl (lv_at hl 1 rfl) ?_
  refine lv_iload_n hx hb dL_why_4 rfl (lv_at hl 2 rfl) ?_
  refine call_V1 X hW (kC_X10 k0_9) ml_5_32 ml_5_33 ml_5_34 mwL_why (c_X10_why k0_9 hf) (by decide) rfl rfl (Nat.le_of_ble_eq_true rfl) hl.1 dL_why_5 ?_
  clear hW; intro H locs hW
  refine lv_i2l hx hb dL_why_8 rfl ?_
  refine r_last X hW k620 in620 dL_why_9 ?_
  clear hW; intro H locs hW
  refine lv_goto (tgt := 17) hx hb dL_why_10 (by decide) ?_
  refine lv_iconst (v := 0) hx hb dL_why_17 (by decide) ?_
  exact hret 0 0 (Nat.zero_le _) (Nat.zero_le _) _ _ _ _ dL_why_18 hW
set_option maxRecDepth 20000 in
set_option maxHeartbeats 4000000 in
theorem x_L_why_2 {G : Gt} {l : Launch} {v1 : Int32} {v2 : Int32} {σ : St} (hf : pf_X10_why 0 v1 v2 σ = some (.inl 2)) : CtL G l yL_why cL_why 5 [(0, 10, 13, 21)] 11 [.ref (gz G + 0), .int v1, .int v2, .ref (gz G + 620)] σ 1 σ := by
  refine met_L (by decide +kernel) (Nat.le_of_ble_eq_true rfl) ?_
  intro p e s m args below meth c Q ls hfl htab X X1 hW hret hl
  have hx := X.1.1
  have hb := X.1.2.1
  have hl : lv_has ls 5 [(0, .ref (gz G + 0)), (1, .int v1), (2, .int v2), (3, .ref (gz G + 620))] := hl
  refine lv_aload_n hx hb dL_why_0 rfl (lv_at hl 3 rfl) ?_
  refine lv_iconst (v := 0) hx hb dL_why_1 (by decide) ?_
  refine lv_aload_n hx hb dL_why_2 rfl (lv_at hl 0 rfl) ?_
  refine lv_iload_n hx hb dL_why_3 rfl (lv_at hl 1 rfl) ?_
  refine lv_iload_n hx hb dL_why_4 rfl (lv_at hl 2 rfl) ?_
  refine tcall_VC X hW (kC_X10 k0_9) ml_5_32 ml_5_33 ml_5_34 mwL_why (x_X10_why k0_9 hf) hfl (by decide) rfl rfl (Nat.le_of_ble_eq_true rfl) hl.1 dL_why_5 (Nat.le_refl _) (Nat.le_refl _) ?_
  clear hW; intro H locs q ce hW hq hv hcl
  refine vx_catch (own := RL) (E := exN 2) (name := exN 2) X.1.2.2.2.1 [] ⟨0, 10, 13, 21⟩ [] (htab.trans rfl) ?_ rfl (by decide) (X.1.2.2.2.2 _ ml_5_6) (X.1.2.2.2.2 _ ml_3_119) hq hv hcl ?_
  · exact fun z hz => absurd hz List.not_mem_nil
  · refine lv_astore hx hb dL_why_13 hl (by decide) rfl ?_
    intro ls2 hl2
    refine lv_iconst (v := 1) hx hb dL_why_15 (by decide) ?_
    exact hret 1 6 (Nat.le_refl _) (Nat.le_refl _) _ _ _ _ dL_why_16 hW
theorem mvL_holds : ML yL_holds cL_holds 5 [(0, 17, 20, 21), (0, 17, 24, 13)] 4 := ⟨ml_5_39, by decide +kernel, ml_1_0, ⟨by decide +kernel, by decide +kernel, by decide +kernel⟩, by decide⟩
theorem mwL_holds : MV yX10_holds cX10_holds 4 (some .boolean) 2 := ⟨ml_5_43, by decide +kernel, ml_1_1, ⟨by decide +kernel, by decide +kernel, by decide +kernel⟩, by decide⟩
set_option maxRecDepth 20000 in
set_option maxHeartbeats 4000000 in
theorem c_L_holds {G : Gt} {l : Launch} {v1 : Int32} {v2 : Int32} {σ : St} {r : Int32} (hf : pf_X10_holds 0 v1 v2 σ = some (.inr r)) {z : Int64} (hz : z = if r = 0 then 0 else 1) : CtL G l yL_holds cL_holds 5 [(0, 17, 20, 21), (0, 17, 24, 13)] 10 [.ref (gz G + 0), .int v1, .int v2, .ref (gz G + 620)] σ 0 (sL σ 620 0 z) := by
  refine met_L (by decide +kernel) (Nat.le_of_ble_eq_true rfl) ?_
  intro p e s m args below meth c Q ls hfl htab X X1 hW hret hl
  have hx := X.1.1
  have hb := X.1.2.1
  have hl : lv_has ls 5 [(0, .ref (gz G + 0)), (1, .int v1), (2, .int v2), (3, .ref (gz G + 620))] := hl
  refine lv_aload_n hx hb dL_holds_0 rfl (lv_at hl 3 rfl) ?_
  refine lv_iconst (v := 0) hx hb dL_holds_1 (by decide) ?_
  refine lv_aload_n hx hb dL_holds_2 rfl (lv_at hl 0 rfl) ?_
  refine lv_iload_n hx hb dL_holds_3 rfl (lv_at hl 1 rfl) ?_
  refine lv_iload_n hx hb dL_holds_4 rfl (lv_at hl 2 rfl) ?_
  refine call_V1 X hW (kC_X10 k0_9) ml_5_40 ml_5_41 ml_5_42 mwL_holds (c_X10_holds k0_9 hf) (by decide) rfl rfl (Nat.le_of_ble_eq_true rfl) hl.1 dL_holds_5 ?_
  clear hW; intro H locs hW
  refine lv_if_eq (tgt := 15) hx hb dL_holds_8 (by decide) (fun hc => ?_) (fun hc => ?_)
  · rw [if_pos hc] at hz
    subst hz
    refine lv_lconst (v := 0) hx hb dL_holds_15 rfl ?_
    refine r_last X hW k620 in620 dL_holds_16 ?_
    clear hW; intro H locs hW
    refine lv_goto (tgt := 28) hx hb dL_holds_17 (by decide) ?_
    refine lv_iconst (v := 0) hx hb dL_holds_28 (by decide) ?_
    exact hret 0 0 (Nat.zero_le _) (Nat.zero_le _) _ _ _ _ dL_holds_29 hW
  · rw [if_neg hc] at hz
    subst hz
    refine lv_lconst (v := 1) hx hb dL_holds_11 rfl ?_
    refine lv_goto (tgt := 16) hx hb dL_holds_12 (by decide) ?_
    refine r_last X hW k620 in620 dL_holds_16 ?_
    clear hW; intro H locs hW
    refine lv_goto (tgt := 28) hx hb dL_holds_17 (by decide) ?_
    refine lv_iconst (v := 0) hx hb dL_holds_28 (by decide) ?_
    exact hret 0 0 (Nat.zero_le _) (Nat.zero_le _) _ _ _ _ dL_holds_29 hW
set_option maxRecDepth 20000 in
set_option maxHeartbeats 4000000 in
theorem x_L_holds_2 {G : Gt} {l : Launch} {v1 : Int32} {v2 : Int32} {σ : St} (hf : pf_X10_holds 0 v1 v2 σ = some (.inl 2)) : CtL G l yL_holds cL_holds 5 [(0, 17, 20, 21), (0, 17, 24, 13)] 10 [.ref (gz G + 0), .int v1, .int v2, .ref (gz G + 620)] σ 1 σ := by
  refine met_L (by decide +kernel) (Nat.le_of_ble_eq_true rfl) ?_
  intro p e s m args below meth c Q ls hfl htab X X1 hW hret hl
  have hx := X.1.1
  have hb := X.1.2.1
  have hl : lv_has ls 5 [(0, .ref (gz G + 0)), (1, .int v1), (2, .int v2), (3, .ref (gz G + 620))] := hl
  refine lv_aload_n hx hb dL_holds_0 rfl (lv_at hl 3 rfl) ?_
  refine lv_iconst (v := 0) hx hb dL_holds_1 (by decide) ?_
  refine lv_aload_n hx hb dL_holds_2 rfl (lv_at hl 0 rfl) ?_
  refine lv_iload_n hx hb dL_holds_3 rfl (lv_at hl 1 rfl) ?_
  refine lv_iload_n hx hb dL_holds_4 rfl (lv_at hl 2 rfl) ?_
  refine tcall_VC X hW (kC_X10 k0_9) ml_5_40 ml_5_41 ml_5_42 mwL_holds (x_X10_holds k0_9 hf) hfl (by decide) rfl rfl (Nat.le_of_ble_eq_true rfl) hl.1 dL_holds_5 (Nat.le_refl _) (Nat.le_refl _) ?_
  clear hW; intro H locs q ce hW hq hv hcl
  refine vx_catch (own := RL) (E := exN 2) (name := exN 2) X.1.2.2.2.1 [] ⟨0, 17, 20, 21⟩ [⟨0, 17, 24, 13⟩] (htab.trans rfl) ?_ rfl (by decide) (X.1.2.2.2.2 _ ml_5_6) (X.1.2.2.2.2 _ ml_3_119) hq hv hcl ?_
  · exact fun z hz => absurd hz List.not_mem_nil
  · refine lv_astore hx hb dL_holds_20 hl (by decide) rfl ?_
    intro ls2 hl2
    refine lv_iconst (v := 1) hx hb dL_holds_22 (by decide) ?_
    exact hret 1 6 (Nat.le_refl _) (Nat.le_refl _) _ _ _ _ dL_holds_23 hW
set_option maxRecDepth 20000 in
set_option maxHeartbeats 4000000 in
theorem x_L_holds_1 {G : Gt} {l : Launch} {v1 : Int32} {v2 : Int32} {σ : St} (hf : pf_X10_holds 0 v1 v2 σ = some (.inl 1)) : CtL G l yL_holds cL_holds 5 [(0, 17, 20, 21), (0, 17, 24, 13)] 10 [.ref (gz G + 0), .int v1, .int v2, .ref (gz G + 620)] σ 2 σ := by
  refine met_L (by decide +kernel) (Nat.le_of_ble_eq_true rfl) ?_
  intro p e s m args below meth c Q ls hfl htab X X1 hW hret hl
  have hx := X.1.1
  have hb := X.1.2.1
  have hl : lv_has ls 5 [(0, .ref (gz G + 0)), (1, .int v1), (2, .int v2), (3, .ref (gz G + 620))] := hl
  refine lv_aload_n hx hb dL_holds_0 rfl (lv_at hl 3 rfl) ?_
  refine lv_iconst (v := 0) hx hb dL_holds_1 (by decide) ?_
  refine lv_aload_n hx hb dL_holds_2 rfl (lv_at hl 0 rfl) ?_
  refine lv_iload_n hx hb dL_holds_3 rfl (lv_at hl 1 rfl) ?_
  refine lv_iload_n hx hb dL_holds_4 rfl (lv_at hl 2 rfl) ?_
  refine tcall_VC X hW (kC_X10 k0_9) ml_5_40 ml_5_41 ml_5_42 mwL_holds (x_X10_holds k0_9 hf) hfl (by decide) rfl rfl (Nat.le_of_ble_eq_true rfl) hl.1 dL_holds_5 (Nat.le_refl _) (Nat.le_refl _) ?_
  clear hW; intro H locs q ce hW hq hv hcl
  refine vx_catch (own := RL) (E := exN 1) (name := exN 1) X.1.2.2.2.1 [⟨0, 17, 20, 21⟩] ⟨0, 17, 24, 13⟩ [] (htab.trans rfl) ?_ rfl (by decide) (X.1.2.2.2.2 _ ml_3_160) (X.1.2.2.2.2 _ ml_3_24) hq hv hcl ?_
  · have hN := X.2.1.2.2.2.2.2.2.2.2.2.2.2.2
    intro z hz
    rw [List.mem_singleton] at hz
    subst hz
    exact Or.inr ⟨by decide, exN 2, X.1.2.2.2.2 _ ml_5_6, hN 1 2 (by omega) (by omega) (by omega) (by omega) (by omega)⟩
  · refine lv_astore hx hb dL_holds_24 hl (by decide) rfl ?_
    intro ls2 hl2
    refine lv_iconst (v := 2) hx hb dL_holds_26 (by decide) ?_
    exact hret 1 6 (Nat.le_refl _) (Nat.le_refl _) _ _ _ _ dL_holds_27 hW
theorem mvL_possible : ML yL_possible cL_possible 4 [(0, 16, 19, 21)] 3 := ⟨ml_5_47, by decide +kernel, ml_1_0, ⟨by decide +kernel, by decide +kernel, by decide +kernel⟩, by decide⟩
theorem mwL_possible : MV yX10_possible cX10_possible 2 (some .boolean) 1 := ⟨ml_5_51, by decide +kernel, ml_1_1, ⟨by decide +kernel, by decide +kernel, by decide +kernel⟩, by decide⟩
set_option maxRecDepth 20000 in
set_option maxHeartbeats 4000000 in
theorem c_L_possible {G : Gt} {l : Launch} {v1 : Int32} {σ : St} {r : Int32} {σ' : St} (hf : pf_X10_possible 0 v1 σ = some (.inr r, σ')) {z : Int64} (hz : z = if r = 0 then 0 else 1) : CtL G l yL_possible cL_possible 4 [(0, 16, 19, 21)] 10 [.ref (gz G + 0), .int v1, .ref (gz G + 620)] σ 0 (sL σ' 620 0 z) := by
  refine met_L (by decide +kernel) (Nat.le_of_ble_eq_true rfl) ?_
  intro p e s m args below meth c Q ls hfl htab X X1 hW hret hl
  have hx := X.1.1
  have hb := X.1.2.1
  have hl : lv_has ls 4 [(0, .ref (gz G + 0)), (1, .int v1), (2, .ref (gz G + 620))] := hl
  refine lv_aload_n hx hb dL_possible_0 rfl (lv_at hl 2 rfl) ?_
  refine lv_iconst (v := 0) hx hb dL_possible_1 (by decide) ?_
  refine lv_aload_n hx hb dL_possible_2 rfl (lv_at hl 0 rfl) ?_
  refine lv_iload_n hx hb dL_possible_3 rfl (lv_at hl 1 rfl) ?_
  refine call_V1 X hW (kC_X10 k0_9) ml_5_48 ml_5_49 ml_5_50 mwL_possible (c_X10_possible k0_9 hf) (by decide) rfl rfl (Nat.le_of_ble_eq_true rfl) hl.1 dL_possible_4 ?_
  clear hW; intro H locs hW
  refine lv_if_eq (tgt := 14) hx hb dL_possible_7 (by decide) (fun hc => ?_) (fun hc => ?_)
  · rw [if_pos hc] at hz
    subst hz
    refine lv_lconst (v := 0) hx hb dL_possible_14 rfl ?_
    refine r_last X hW k620 in620 dL_possible_15 ?_
    clear hW; intro H locs hW
    refine lv_goto (tgt := 22) hx hb dL_possible_16 (by decide) ?_
    refine lv_iconst (v := 0) hx hb dL_possible_22 (by decide) ?_
    exact hret 0 0 (Nat.zero_le _) (Nat.zero_le _) _ _ _ _ dL_possible_23 hW
  · rw [if_neg hc] at hz
    subst hz
    refine lv_lconst (v := 1) hx hb dL_possible_10 rfl ?_
    refine lv_goto (tgt := 15) hx hb dL_possible_11 (by decide) ?_
    refine r_last X hW k620 in620 dL_possible_15 ?_
    clear hW; intro H locs hW
    refine lv_goto (tgt := 22) hx hb dL_possible_16 (by decide) ?_
    refine lv_iconst (v := 0) hx hb dL_possible_22 (by decide) ?_
    exact hret 0 0 (Nat.zero_le _) (Nat.zero_le _) _ _ _ _ dL_possible_23 hW
set_option maxRecDepth 20000 in
set_option maxHeartbeats 4000000 in
theorem x_L_possible_2 {G : Gt} {l : Launch} {v1 : Int32} {σ : St} {σ' : St} (hf : pf_X10_possible 0 v1 σ = some (.inl 2, σ')) : CtL G l yL_possible cL_possible 4 [(0, 16, 19, 21)] 10 [.ref (gz G + 0), .int v1, .ref (gz G + 620)] σ 1 σ' := by
  refine met_L (by decide +kernel) (Nat.le_of_ble_eq_true rfl) ?_
  intro p e s m args below meth c Q ls hfl htab X X1 hW hret hl
  have hx := X.1.1
  have hb := X.1.2.1
  have hl : lv_has ls 4 [(0, .ref (gz G + 0)), (1, .int v1), (2, .ref (gz G + 620))] := hl
  refine lv_aload_n hx hb dL_possible_0 rfl (lv_at hl 2 rfl) ?_
  refine lv_iconst (v := 0) hx hb dL_possible_1 (by decide) ?_
  refine lv_aload_n hx hb dL_possible_2 rfl (lv_at hl 0 rfl) ?_
  refine lv_iload_n hx hb dL_possible_3 rfl (lv_at hl 1 rfl) ?_
  refine tcall_VC X hW (kC_X10 k0_9) ml_5_48 ml_5_49 ml_5_50 mwL_possible (x_X10_possible k0_9 hf) hfl (by decide) rfl rfl (Nat.le_of_ble_eq_true rfl) hl.1 dL_possible_4 (Nat.le_refl _) (Nat.le_refl _) ?_
  clear hW; intro H locs q ce hW hq hv hcl
  refine vx_catch (own := RL) (E := exN 2) (name := exN 2) X.1.2.2.2.1 [] ⟨0, 16, 19, 21⟩ [] (htab.trans rfl) ?_ rfl (by decide) (X.1.2.2.2.2 _ ml_5_6) (X.1.2.2.2.2 _ ml_3_119) hq hv hcl ?_
  · exact fun z hz => absurd hz List.not_mem_nil
  · refine lv_astore_n hx hb dL_possible_19 rfl hl (by decide) rfl ?_
    intro ls2 hl2
    refine lv_iconst (v := 1) hx hb dL_possible_20 (by decide) ?_
    exact hret 1 6 (Nat.le_refl _) (Nat.le_refl _) _ _ _ _ dL_possible_21 hW
theorem mvL_planLength : ML yL_planLength cL_planLength 4 [(0, 9, 12, 21)] 3 := ⟨ml_5_54, by decide +kernel, ml_1_0, ⟨by decide +kernel, by decide +kernel, by decide +kernel⟩, by decide⟩
theorem mwL_planLength : MV yX10_planLength cX10_planLength 3 (some .int) 1 := ⟨ml_5_58, by decide +kernel, ml_1_1, ⟨by decide +kernel, by decide +kernel, by decide +kernel⟩, by decide⟩
set_option maxRecDepth 20000 in
set_option maxHeartbeats 4000000 in
theorem c_L_planLength {G : Gt} {l : Launch} {v1 : Int32} {σ : St} {r : Int32} {σ' : St} (hf : pf_X10_planLength 0 v1 σ = some (.inr r, σ')) : CtL G l yL_planLength cL_planLength 4 [(0, 9, 12, 21)] 10 [.ref (gz G + 0), .int v1, .ref (gz G + 620)] σ 0 (sL σ' 620 0 r.toInt64) := by
  refine met_L (by decide +kernel) (Nat.le_of_ble_eq_true rfl) ?_
  intro p e s m args below meth c Q ls hfl htab X X1 hW hret hl
  have hx := X.1.1
  have hb := X.1.2.1
  have hl : lv_has ls 4 [(0, .ref (gz G + 0)), (1, .int v1), (2, .ref (gz G + 620))] := hl
  refine lv_aload_n hx hb dL_planLength_0 rfl (lv_at hl 2 rfl) ?_
  refine lv_iconst (v := 0) hx hb dL_planLength_1 (by decide) ?_
  refine lv_aload_n hx hb dL_planLength_2 rfl (lv_at hl 0 rfl) ?_
  refine lv_iload_n hx hb dL_planLength_3 rfl (lv_at hl 1 rfl) ?_
  refine call_V1 X hW (kC_X10 k0_9) ml_5_55 ml_5_56 ml_5_57 mwL_planLength (c_X10_planLength k0_9 hf) (by decide) rfl rfl (Nat.le_of_ble_eq_true rfl) hl.1 dL_planLength_4 ?_
  clear hW; intro H locs hW
  refine lv_i2l hx hb dL_planLength_7 rfl ?_
  refine r_last X hW k620 in620 dL_planLength_8 ?_
  clear hW; intro H locs hW
  refine lv_goto (tgt := 15) hx hb dL_planLength_9 (by decide) ?_
  refine lv_iconst (v := 0) hx hb dL_planLength_15 (by decide) ?_
  exact hret 0 0 (Nat.zero_le _) (Nat.zero_le _) _ _ _ _ dL_planLength_16 hW
set_option maxRecDepth 20000 in
set_option maxHeartbeats 4000000 in
theorem x_L_planLength_2 {G : Gt} {l : Launch} {v1 : Int32} {σ : St} {σ' : St} (hf : pf_X10_planLength 0 v1 σ = some (.inl 2, σ')) : CtL G l yL_planLength cL_planLength 4 [(0, 9, 12, 21)] 10 [.ref (gz G + 0), .int v1, .ref (gz G + 620)] σ 1 σ' := by
  refine met_L (by decide +kernel) (Nat.le_of_ble_eq_true rfl) ?_
  intro p e s m args below meth c Q ls hfl htab X X1 hW hret hl
  have hx := X.1.1
  have hb := X.1.2.1
  have hl : lv_has ls 4 [(0, .ref (gz G + 0)), (1, .int v1), (2, .ref (gz G + 620))] := hl
  refine lv_aload_n hx hb dL_planLength_0 rfl (lv_at hl 2 rfl) ?_
  refine lv_iconst (v := 0) hx hb dL_planLength_1 (by decide) ?_
  refine lv_aload_n hx hb dL_planLength_2 rfl (lv_at hl 0 rfl) ?_
  refine lv_iload_n hx hb dL_planLength_3 rfl (lv_at hl 1 rfl) ?_
  refine tcall_VC X hW (kC_X10 k0_9) ml_5_55 ml_5_56 ml_5_57 mwL_planLength (x_X10_planLength k0_9 hf) hfl (by decide) rfl rfl (Nat.le_of_ble_eq_true rfl) hl.1 dL_planLength_4 (Nat.le_refl _) (Nat.le_refl _) ?_
  clear hW; intro H locs q ce hW hq hv hcl
  refine vx_catch (own := RL) (E := exN 2) (name := exN 2) X.1.2.2.2.1 [] ⟨0, 9, 12, 21⟩ [] (htab.trans rfl) ?_ rfl (by decide) (X.1.2.2.2.2 _ ml_5_6) (X.1.2.2.2.2 _ ml_3_119) hq hv hcl ?_
  · exact fun z hz => absurd hz List.not_mem_nil
  · refine lv_astore_n hx hb dL_planLength_12 rfl hl (by decide) rfl ?_
    intro ls2 hl2
    refine lv_iconst (v := 1) hx hb dL_planLength_13 (by decide) ?_
    exact hret 1 6 (Nat.le_refl _) (Nat.le_refl _) _ _ _ _ dL_planLength_14 hW
theorem mvL_planStep : ML yL_planStep cL_planStep 5 [(0, 10, 13, 21), (0, 10, 17, 52)] 4 := ⟨ml_5_61, by decide +kernel, ml_1_0, ⟨by decide +kernel, by decide +kernel, by decide +kernel⟩, by decide⟩
theorem mwL_planStep : MV yX10_planStep cX10_planStep 4 (some .int) 2 := ⟨ml_5_66, by decide +kernel, ml_1_1, ⟨by decide +kernel, by decide +kernel, by decide +kernel⟩, by decide⟩
set_option maxRecDepth 20000 in
set_option maxHeartbeats 4000000 in
theorem c_L_planStep {G : Gt} {l : Launch} {v1 : Int32} {v2 : Int32} {σ : St} {r : Int32} {σ' : St} (hf : pf_X10_planStep 0 v1 v2 σ = some (.inr r, σ')) : CtL G l yL_planStep cL_planStep 5 [(0, 10, 13, 21), (0, 10, 17, 52)] 10 [.ref (gz G + 0), .int v1, .int v2, .ref (gz G + 620)] σ 0 (sL σ' 620 0 r.toInt64) := by
  refine met_L (by decide +kernel) (Nat.le_of_ble_eq_true rfl) ?_
  intro p e s m args below meth c Q ls hfl htab X X1 hW hret hl
  have hx := X.1.1
  have hb := X.1.2.1
  have hl : lv_has ls 5 [(0, .ref (gz G + 0)), (1, .int v1), (2, .int v2), (3, .ref (gz G + 620))] := hl
  refine lv_aload_n hx hb dL_planStep_0 rfl (lv_at hl 3 rfl) ?_
  refine lv_iconst (v := 0) hx hb dL_planStep_1 (by decide) ?_
  refine lv_aload_n hx hb dL_planStep_2 rfl (lv_at hl 0 rfl) ?_
  refine lv_iload_n hx hb dL_planStep_3 rfl (lv_at hl 1 rfl) ?_
  refine lv_iload_n hx hb dL_planStep_4 rfl (lv_at hl 2 rfl) ?_
  refine call_V1 X hW (kC_X10 k0_9) ml_5_63 ml_5_64 ml_5_65 mwL_planStep (c_X10_planStep k0_9 hf) (by decide) rfl rfl (Nat.le_of_ble_eq_true rfl) hl.1 dL_planStep_5 ?_
  clear hW; intro H locs hW
  refine lv_i2l hx hb dL_planStep_8 rfl ?_
  refine r_last X hW k620 in620 dL_planStep_9 ?_
  clear hW; intro H locs hW
  refine lv_goto (tgt := 21) hx hb dL_planStep_10 (by decide) ?_
  refine lv_iconst (v := 0) hx hb dL_planStep_21 (by decide) ?_
  exact hret 0 0 (Nat.zero_le _) (Nat.zero_le _) _ _ _ _ dL_planStep_22 hW
set_option maxRecDepth 20000 in
set_option maxHeartbeats 4000000 in
theorem x_L_planStep_2 {G : Gt} {l : Launch} {v1 : Int32} {v2 : Int32} {σ : St} {σ' : St} (hf : pf_X10_planStep 0 v1 v2 σ = some (.inl 2, σ')) : CtL G l yL_planStep cL_planStep 5 [(0, 10, 13, 21), (0, 10, 17, 52)] 10 [.ref (gz G + 0), .int v1, .int v2, .ref (gz G + 620)] σ 1 σ' := by
  refine met_L (by decide +kernel) (Nat.le_of_ble_eq_true rfl) ?_
  intro p e s m args below meth c Q ls hfl htab X X1 hW hret hl
  have hx := X.1.1
  have hb := X.1.2.1
  have hl : lv_has ls 5 [(0, .ref (gz G + 0)), (1, .int v1), (2, .int v2), (3, .ref (gz G + 620))] := hl
  refine lv_aload_n hx hb dL_planStep_0 rfl (lv_at hl 3 rfl) ?_
  refine lv_iconst (v := 0) hx hb dL_planStep_1 (by decide) ?_
  refine lv_aload_n hx hb dL_planStep_2 rfl (lv_at hl 0 rfl) ?_
  refine lv_iload_n hx hb dL_planStep_3 rfl (lv_at hl 1 rfl) ?_
  refine lv_iload_n hx hb dL_planStep_4 rfl (lv_at hl 2 rfl) ?_
  refine tcall_VC X hW (kC_X10 k0_9) ml_5_63 ml_5_64 ml_5_65 mwL_planStep (x_X10_planStep k0_9 hf) hfl (by decide) rfl rfl (Nat.le_of_ble_eq_true rfl) hl.1 dL_planStep_5 (Nat.le_refl _) (Nat.le_refl _) ?_
  clear hW; intro H locs q ce hW hq hv hcl
  refine vx_catch (own := RL) (E := exN 2) (name := exN 2) X.1.2.2.2.1 [] ⟨0, 10, 13, 21⟩ [⟨0, 10, 17, 52⟩] (htab.trans rfl) ?_ rfl (by decide) (X.1.2.2.2.2 _ ml_5_6) (X.1.2.2.2.2 _ ml_3_119) hq hv hcl ?_
  · exact fun z hz => absurd hz List.not_mem_nil
  · refine lv_astore hx hb dL_planStep_13 hl (by decide) rfl ?_
    intro ls2 hl2
    refine lv_iconst (v := 1) hx hb dL_planStep_15 (by decide) ?_
    exact hret 1 6 (Nat.le_refl _) (Nat.le_refl _) _ _ _ _ dL_planStep_16 hW
set_option maxRecDepth 20000 in
set_option maxHeartbeats 4000000 in
theorem x_L_planStep_4 {G : Gt} {l : Launch} {v1 : Int32} {v2 : Int32} {σ : St} {σ' : St} (hf : pf_X10_planStep 0 v1 v2 σ = some (.inl 4, σ')) : CtL G l yL_planStep cL_planStep 5 [(0, 10, 13, 21), (0, 10, 17, 52)] 10 [.ref (gz G + 0), .int v1, .int v2, .ref (gz G + 620)] σ 2 σ' := by
  refine met_L (by decide +kernel) (Nat.le_of_ble_eq_true rfl) ?_
  intro p e s m args below meth c Q ls hfl htab X X1 hW hret hl
  have hx := X.1.1
  have hb := X.1.2.1
  have hl : lv_has ls 5 [(0, .ref (gz G + 0)), (1, .int v1), (2, .int v2), (3, .ref (gz G + 620))] := hl
  refine lv_aload_n hx hb dL_planStep_0 rfl (lv_at hl 3 rfl) ?_
  refine lv_iconst (v := 0) hx hb dL_planStep_1 (by decide) ?_
  refine lv_aload_n hx hb dL_planStep_2 rfl (lv_at hl 0 rfl) ?_
  refine lv_iload_n hx hb dL_planStep_3 rfl (lv_at hl 1 rfl) ?_
  refine lv_iload_n hx hb dL_planStep_4 rfl (lv_at hl 2 rfl) ?_
  refine tcall_VC X hW (kC_X10 k0_9) ml_5_63 ml_5_64 ml_5_65 mwL_planStep (x_X10_planStep k0_9 hf) hfl (by decide) rfl rfl (Nat.le_of_ble_eq_true rfl) hl.1 dL_planStep_5 (Nat.le_refl _) (Nat.le_refl _) ?_
  clear hW; intro H locs q ce hW hq hv hcl
  refine vx_catch (own := RL) (E := exN 4) (name := exN 4) X.1.2.2.2.1 [⟨0, 10, 13, 21⟩] ⟨0, 10, 17, 52⟩ [] (htab.trans rfl) ?_ rfl (by decide) (X.1.2.2.2.2 _ ml_5_62) (X.1.2.2.2.2 _ ml_5_69) hq hv hcl ?_
  · have hN := X.2.1.2.2.2.2.2.2.2.2.2.2.2.2
    intro z hz
    rw [List.mem_singleton] at hz
    subst hz
    exact Or.inr ⟨by decide, exN 2, X.1.2.2.2.2 _ ml_5_6, hN 4 2 (by omega) (by omega) (by omega) (by omega) (by omega)⟩
  · refine lv_astore hx hb dL_planStep_17 hl (by decide) rfl ?_
    intro ls2 hl2
    refine lv_iconst (v := 2) hx hb dL_planStep_19 (by decide) ?_
    exact hret 1 6 (Nat.le_refl _) (Nat.le_refl _) _ _ _ _ dL_planStep_20 hW
theorem mvL_safest : ML yL_safest cL_safest 4 [(0, 9, 12, 21)] 3 := ⟨ml_5_85, by decide +kernel, ml_1_0, ⟨by decide +kernel, by decide +kernel, by decide +kernel⟩, by decide⟩
theorem mwL_safest : MV yX10_safest cX10_safest 3 (some .int) 1 := ⟨ml_5_89, by decide +kernel, ml_1_1, ⟨by decide +kernel, by decide +kernel, by decide +kernel⟩, by decide⟩
set_option maxRecDepth 20000 in
set_option maxHeartbeats 4000000 in
theorem c_L_safest {G : Gt} {l : Launch} {v1 : Int32} {σ : St} {r : Int32} {σ' : St} (hf : pf_X10_safest 0 v1 σ = some (.inr r, σ')) : CtL G l yL_safest cL_safest 4 [(0, 9, 12, 21)] 10 [.ref (gz G + 0), .int v1, .ref (gz G + 620)] σ 0 (sL σ' 620 0 r.toInt64) := by
  refine met_L (by decide +kernel) (Nat.le_of_ble_eq_true rfl) ?_
  intro p e s m args below meth c Q ls hfl htab X X1 hW hret hl
  have hx := X.1.1
  have hb := X.1.2.1
  have hl : lv_has ls 4 [(0, .ref (gz G + 0)), (1, .int v1), (2, .ref (gz G + 620))] := hl
  refine lv_aload_n hx hb dL_safest_0 rfl (lv_at hl 2 rfl) ?_
  refine lv_iconst (v := 0) hx hb dL_safest_1 (by decide) ?_
  refine lv_aload_n hx hb dL_safest_2 rfl (lv_at hl 0 rfl) ?_
  refine lv_iload_n hx hb dL_safest_3 rfl (lv_at hl 1 rfl) ?_
  refine call_V1 X hW (kC_X10 k0_9) ml_5_86 ml_5_87 ml_5_88 mwL_safest (c_X10_safest k0_9 hf) (by decide) rfl rfl (Nat.le_of_ble_eq_true rfl) hl.1 dL_safest_4 ?_
  clear hW; intro H locs hW
  refine lv_i2l hx hb dL_safest_7 rfl ?_
  refine r_last X hW k620 in620 dL_safest_8 ?_
  clear hW; intro H locs hW
  refine lv_goto (tgt := 15) hx hb dL_safest_9 (by decide) ?_
  refine lv_iconst (v := 0) hx hb dL_safest_15 (by decide) ?_
  exact hret 0 0 (Nat.zero_le _) (Nat.zero_le _) _ _ _ _ dL_safest_16 hW
set_option maxRecDepth 20000 in
set_option maxHeartbeats 4000000 in
theorem x_L_safest_2 {G : Gt} {l : Launch} {v1 : Int32} {σ : St} {σ' : St} (hf : pf_X10_safest 0 v1 σ = some (.inl 2, σ')) : CtL G l yL_safest cL_safest 4 [(0, 9, 12, 21)] 10 [.ref (gz G + 0), .int v1, .ref (gz G + 620)] σ 1 σ' := by
  refine met_L (by decide +kernel) (Nat.le_of_ble_eq_true rfl) ?_
  intro p e s m args below meth c Q ls hfl htab X X1 hW hret hl
  have hx := X.1.1
  have hb := X.1.2.1
  have hl : lv_has ls 4 [(0, .ref (gz G + 0)), (1, .int v1), (2, .ref (gz G + 620))] := hl
  refine lv_aload_n hx hb dL_safest_0 rfl (lv_at hl 2 rfl) ?_
  refine lv_iconst (v := 0) hx hb dL_safest_1 (by decide) ?_
  refine lv_aload_n hx hb dL_safest_2 rfl (lv_at hl 0 rfl) ?_
  refine lv_iload_n hx hb dL_safest_3 rfl (lv_at hl 1 rfl) ?_
  refine tcall_VC X hW (kC_X10 k0_9) ml_5_86 ml_5_87 ml_5_88 mwL_safest (x_X10_safest k0_9 hf) hfl (by decide) rfl rfl (Nat.le_of_ble_eq_true rfl) hl.1 dL_safest_4 (Nat.le_refl _) (Nat.le_refl _) ?_
  clear hW; intro H locs q ce hW hq hv hcl
  refine vx_catch (own := RL) (E := exN 2) (name := exN 2) X.1.2.2.2.1 [] ⟨0, 9, 12, 21⟩ [] (htab.trans rfl) ?_ rfl (by decide) (X.1.2.2.2.2 _ ml_5_6) (X.1.2.2.2.2 _ ml_3_119) hq hv hcl ?_
  · exact fun z hz => absurd hz List.not_mem_nil
  · refine lv_astore_n hx hb dL_safest_12 rfl hl (by decide) rfl ?_
    intro ls2 hl2
    refine lv_iconst (v := 1) hx hb dL_safest_13 (by decide) ?_
    exact hret 1 6 (Nat.le_refl _) (Nat.le_refl _) _ _ _ _ dL_safest_14 hW
theorem mvL_endings : ML yL_endings cL_endings 4 [(0, 9, 12, 21)] 3 := ⟨ml_5_96, by decide +kernel, ml_1_0, ⟨by decide +kernel, by decide +kernel, by decide +kernel⟩, by decide⟩
theorem mwL_endings : MV yX10_endings cX10_endings 3 (some .int) 1 := ⟨ml_5_100, by decide +kernel, ml_1_1, ⟨by decide +kernel, by decide +kernel, by decide +kernel⟩, by decide⟩
set_option maxRecDepth 20000 in
set_option maxHeartbeats 4000000 in
theorem c_L_endings {G : Gt} {l : Launch} {v1 : Int32} {σ : St} {r : Int32} {σ' : St} (hf : pf_X10_endings 0 v1 σ = some (.inr r, σ')) : CtL G l yL_endings cL_endings 4 [(0, 9, 12, 21)] 10 [.ref (gz G + 0), .int v1, .ref (gz G + 620)] σ 0 (sL σ' 620 0 r.toInt64) := by
  refine met_L (by decide +kernel) (Nat.le_of_ble_eq_true rfl) ?_
  intro p e s m args below meth c Q ls hfl htab X X1 hW hret hl
  have hx := X.1.1
  have hb := X.1.2.1
  have hl : lv_has ls 4 [(0, .ref (gz G + 0)), (1, .int v1), (2, .ref (gz G + 620))] := hl
  refine lv_aload_n hx hb dL_endings_0 rfl (lv_at hl 2 rfl) ?_
  refine lv_iconst (v := 0) hx hb dL_endings_1 (by decide) ?_
  refine lv_aload_n hx hb dL_endings_2 rfl (lv_at hl 0 rfl) ?_
  refine lv_iload_n hx hb dL_endings_3 rfl (lv_at hl 1 rfl) ?_
  refine call_V1 X hW (kC_X10 k0_9) ml_5_97 ml_5_98 ml_5_99 mwL_endings (c_X10_endings k0_9 hf) (by decide) rfl rfl (Nat.le_of_ble_eq_true rfl) hl.1 dL_endings_4 ?_
  clear hW; intro H locs hW
  refine lv_i2l hx hb dL_endings_7 rfl ?_
  refine r_last X hW k620 in620 dL_endings_8 ?_
  clear hW; intro H locs hW
  refine lv_goto (tgt := 15) hx hb dL_endings_9 (by decide) ?_
  refine lv_iconst (v := 0) hx hb dL_endings_15 (by decide) ?_
  exact hret 0 0 (Nat.zero_le _) (Nat.zero_le _) _ _ _ _ dL_endings_16 hW
set_option maxRecDepth 20000 in
set_option maxHeartbeats 4000000 in
theorem x_L_endings_2 {G : Gt} {l : Launch} {v1 : Int32} {σ : St} {σ' : St} (hf : pf_X10_endings 0 v1 σ = some (.inl 2, σ')) : CtL G l yL_endings cL_endings 4 [(0, 9, 12, 21)] 10 [.ref (gz G + 0), .int v1, .ref (gz G + 620)] σ 1 σ' := by
  refine met_L (by decide +kernel) (Nat.le_of_ble_eq_true rfl) ?_
  intro p e s m args below meth c Q ls hfl htab X X1 hW hret hl
  have hx := X.1.1
  have hb := X.1.2.1
  have hl : lv_has ls 4 [(0, .ref (gz G + 0)), (1, .int v1), (2, .ref (gz G + 620))] := hl
  refine lv_aload_n hx hb dL_endings_0 rfl (lv_at hl 2 rfl) ?_
  refine lv_iconst (v := 0) hx hb dL_endings_1 (by decide) ?_
  refine lv_aload_n hx hb dL_endings_2 rfl (lv_at hl 0 rfl) ?_
  refine lv_iload_n hx hb dL_endings_3 rfl (lv_at hl 1 rfl) ?_
  refine tcall_VC X hW (kC_X10 k0_9) ml_5_97 ml_5_98 ml_5_99 mwL_endings (x_X10_endings k0_9 hf) hfl (by decide) rfl rfl (Nat.le_of_ble_eq_true rfl) hl.1 dL_endings_4 (Nat.le_refl _) (Nat.le_refl _) ?_
  clear hW; intro H locs q ce hW hq hv hcl
  refine vx_catch (own := RL) (E := exN 2) (name := exN 2) X.1.2.2.2.1 [] ⟨0, 9, 12, 21⟩ [] (htab.trans rfl) ?_ rfl (by decide) (X.1.2.2.2.2 _ ml_5_6) (X.1.2.2.2.2 _ ml_3_119) hq hv hcl ?_
  · exact fun z hz => absurd hz List.not_mem_nil
  · refine lv_astore_n hx hb dL_endings_12 rfl hl (by decide) rfl ?_
    intro ls2 hl2
    refine lv_iconst (v := 1) hx hb dL_endings_13 (by decide) ?_
    exact hret 1 6 (Nat.le_refl _) (Nat.le_refl _) _ _ _ _ dL_endings_14 hW
theorem mvL_lacking : ML yL_lacking cL_lacking 5 [(0, 10, 13, 21)] 4 := ⟨ml_5_113, by decide +kernel, ml_1_0, ⟨by decide +kernel, by decide +kernel, by decide +kernel⟩, by decide⟩
theorem mwL_lacking : MV yX10_lacking cX10_lacking 8 (some .int) 2 := ⟨ml_5_117, by decide +kernel, ml_1_1, ⟨by decide +kernel, by decide +kernel, by decide +kernel⟩, by decide⟩
set_option maxRecDepth 20000 in
set_option maxHeartbeats 4000000 in
theorem c_L_lacking {G : Gt} {l : Launch} {v1 : Int32} {v2 : Int32} {σ : St} {r : Int32} {σ' : St} (hf : pf_X10_lacking 0 v1 v2 σ = some (.inr r, σ')) : CtL G l yL_lacking cL_lacking 5 [(0, 10, 13, 21)] 10 [.ref (gz G + 0), .int v1, .int v2, .ref (gz G + 620)] σ 0 (sL σ' 620 0 r.toInt64) := by
  refine met_L (by decide +kernel) (Nat.le_of_ble_eq_true rfl) ?_
  intro p e s m args below meth c Q ls hfl htab X X1 hW hret hl
  have hx := X.1.1
  have hb := X.1.2.1
  have hl : lv_has ls 5 [(0, .ref (gz G + 0)), (1, .int v1), (2, .int v2), (3, .ref (gz G + 620))] := hl
  refine lv_aload_n hx hb dL_lacking_0 rfl (lv_at hl 3 rfl) ?_
  refine lv_iconst (v := 0) hx hb dL_lacking_1 (by decide) ?_
  refine lv_aload_n hx hb dL_lacking_2 rfl (lv_at hl 0 rfl) ?_
  refine lv_iload_n hx hb dL_lacking_3 rfl (lv_at hl 1 rfl) ?_
  refine lv_iload_n hx hb dL_lacking_4 rfl (lv_at hl 2 rfl) ?_
  refine call_V1 X hW (kC_X10 k0_9) ml_5_114 ml_5_115 ml_5_116 mwL_lacking (c_X10_lacking k0_9 hf) (by decide) rfl rfl (Nat.le_of_ble_eq_true rfl) hl.1 dL_lacking_5 ?_
  clear hW; intro H locs hW
  refine lv_i2l hx hb dL_lacking_8 rfl ?_
  refine r_last X hW k620 in620 dL_lacking_9 ?_
  clear hW; intro H locs hW
  refine lv_goto (tgt := 17) hx hb dL_lacking_10 (by decide) ?_
  refine lv_iconst (v := 0) hx hb dL_lacking_17 (by decide) ?_
  exact hret 0 0 (Nat.zero_le _) (Nat.zero_le _) _ _ _ _ dL_lacking_18 hW
set_option maxRecDepth 20000 in
set_option maxHeartbeats 4000000 in
theorem x_L_lacking_2 {G : Gt} {l : Launch} {v1 : Int32} {v2 : Int32} {σ : St} {σ' : St} (hf : pf_X10_lacking 0 v1 v2 σ = some (.inl 2, σ')) : CtL G l yL_lacking cL_lacking 5 [(0, 10, 13, 21)] 10 [.ref (gz G + 0), .int v1, .int v2, .ref (gz G + 620)] σ 1 σ' := by
  refine met_L (by decide +kernel) (Nat.le_of_ble_eq_true rfl) ?_
  intro p e s m args below meth c Q ls hfl htab X X1 hW hret hl
  have hx := X.1.1
  have hb := X.1.2.1
  have hl : lv_has ls 5 [(0, .ref (gz G + 0)), (1, .int v1), (2, .int v2), (3, .ref (gz G + 620))] := hl
  refine lv_aload_n hx hb dL_lacking_0 rfl (lv_at hl 3 rfl) ?_
  refine lv_iconst (v := 0) hx hb dL_lacking_1 (by decide) ?_
  refine lv_aload_n hx hb dL_lacking_2 rfl (lv_at hl 0 rfl) ?_
  refine lv_iload_n hx hb dL_lacking_3 rfl (lv_at hl 1 rfl) ?_
  refine lv_iload_n hx hb dL_lacking_4 rfl (lv_at hl 2 rfl) ?_
  refine tcall_VC X hW (kC_X10 k0_9) ml_5_114 ml_5_115 ml_5_116 mwL_lacking (x_X10_lacking k0_9 hf) hfl (by decide) rfl rfl (Nat.le_of_ble_eq_true rfl) hl.1 dL_lacking_5 (Nat.le_refl _) (Nat.le_refl _) ?_
  clear hW; intro H locs q ce hW hq hv hcl
  refine vx_catch (own := RL) (E := exN 2) (name := exN 2) X.1.2.2.2.1 [] ⟨0, 10, 13, 21⟩ [] (htab.trans rfl) ?_ rfl (by decide) (X.1.2.2.2.2 _ ml_5_6) (X.1.2.2.2.2 _ ml_3_119) hq hv hcl ?_
  · exact fun z hz => absurd hz List.not_mem_nil
  · refine lv_astore hx hb dL_lacking_13 hl (by decide) rfl ?_
    intro ls2 hl2
    refine lv_iconst (v := 1) hx hb dL_lacking_15 (by decide) ?_
    exact hret 1 6 (Nat.le_refl _) (Nat.le_refl _) _ _ _ _ dL_lacking_16 hW
theorem mvL_worth : ML yL_worth cL_worth 4 [(0, 9, 12, 21)] 3 := ⟨ml_5_124, by decide +kernel, ml_1_0, ⟨by decide +kernel, by decide +kernel, by decide +kernel⟩, by decide⟩
theorem mwL_worth : MV yX10_worth cX10_worth 2 (some .int) 1 := ⟨ml_5_128, by decide +kernel, ml_1_1, ⟨by decide +kernel, by decide +kernel, by decide +kernel⟩, by decide⟩
set_option maxRecDepth 20000 in
set_option maxHeartbeats 4000000 in
theorem c_L_worth {G : Gt} {l : Launch} {v1 : Int32} {σ : St} {r : Int32} {σ' : St} (hf : pf_X10_worth 0 v1 σ = some (.inr r, σ')) : CtL G l yL_worth cL_worth 4 [(0, 9, 12, 21)] 10 [.ref (gz G + 0), .int v1, .ref (gz G + 620)] σ 0 (sL σ' 620 0 r.toInt64) := by
  refine met_L (by decide +kernel) (Nat.le_of_ble_eq_true rfl) ?_
  intro p e s m args below meth c Q ls hfl htab X X1 hW hret hl
  have hx := X.1.1
  have hb := X.1.2.1
  have hl : lv_has ls 4 [(0, .ref (gz G + 0)), (1, .int v1), (2, .ref (gz G + 620))] := hl
  refine lv_aload_n hx hb dL_worth_0 rfl (lv_at hl 2 rfl) ?_
  refine lv_iconst (v := 0) hx hb dL_worth_1 (by decide) ?_
  refine lv_aload_n hx hb dL_worth_2 rfl (lv_at hl 0 rfl) ?_
  refine lv_iload_n hx hb dL_worth_3 rfl (lv_at hl 1 rfl) ?_
  refine call_V1 X hW (kC_X10 k0_9) ml_5_125 ml_5_126 ml_5_127 mwL_worth (c_X10_worth k0_9 hf) (by decide) rfl rfl (Nat.le_of_ble_eq_true rfl) hl.1 dL_worth_4 ?_
  clear hW; intro H locs hW
  refine lv_i2l hx hb dL_worth_7 rfl ?_
  refine r_last X hW k620 in620 dL_worth_8 ?_
  clear hW; intro H locs hW
  refine lv_goto (tgt := 15) hx hb dL_worth_9 (by decide) ?_
  refine lv_iconst (v := 0) hx hb dL_worth_15 (by decide) ?_
  exact hret 0 0 (Nat.zero_le _) (Nat.zero_le _) _ _ _ _ dL_worth_16 hW
set_option maxRecDepth 20000 in
set_option maxHeartbeats 4000000 in
theorem x_L_worth_2 {G : Gt} {l : Launch} {v1 : Int32} {σ : St} {σ' : St} (hf : pf_X10_worth 0 v1 σ = some (.inl 2, σ')) : CtL G l yL_worth cL_worth 4 [(0, 9, 12, 21)] 10 [.ref (gz G + 0), .int v1, .ref (gz G + 620)] σ 1 σ' := by
  refine met_L (by decide +kernel) (Nat.le_of_ble_eq_true rfl) ?_
  intro p e s m args below meth c Q ls hfl htab X X1 hW hret hl
  have hx := X.1.1
  have hb := X.1.2.1
  have hl : lv_has ls 4 [(0, .ref (gz G + 0)), (1, .int v1), (2, .ref (gz G + 620))] := hl
  refine lv_aload_n hx hb dL_worth_0 rfl (lv_at hl 2 rfl) ?_
  refine lv_iconst (v := 0) hx hb dL_worth_1 (by decide) ?_
  refine lv_aload_n hx hb dL_worth_2 rfl (lv_at hl 0 rfl) ?_
  refine lv_iload_n hx hb dL_worth_3 rfl (lv_at hl 1 rfl) ?_
  refine tcall_VC X hW (kC_X10 k0_9) ml_5_125 ml_5_126 ml_5_127 mwL_worth (x_X10_worth k0_9 hf) hfl (by decide) rfl rfl (Nat.le_of_ble_eq_true rfl) hl.1 dL_worth_4 (Nat.le_refl _) (Nat.le_refl _) ?_
  clear hW; intro H locs q ce hW hq hv hcl
  refine vx_catch (own := RL) (E := exN 2) (name := exN 2) X.1.2.2.2.1 [] ⟨0, 9, 12, 21⟩ [] (htab.trans rfl) ?_ rfl (by decide) (X.1.2.2.2.2 _ ml_5_6) (X.1.2.2.2.2 _ ml_3_119) hq hv hcl ?_
  · exact fun z hz => absurd hz List.not_mem_nil
  · refine lv_astore_n hx hb dL_worth_12 rfl hl (by decide) rfl ?_
    intro ls2 hl2
    refine lv_iconst (v := 1) hx hb dL_worth_13 (by decide) ?_
    exact hret 1 6 (Nat.le_refl _) (Nat.le_refl _) _ _ _ _ dL_worth_14 hW
theorem mvL_chance : ML yL_chance cL_chance 4 [(0, 8, 11, 21)] 3 := ⟨ml_5_131, by decide +kernel, ml_1_0, ⟨by decide +kernel, by decide +kernel, by decide +kernel⟩, by decide⟩
theorem mwL_chance : MV yX10_chance cX10_chance 9 (some .double) 1 := ⟨ml_5_135, by decide +kernel, ml_1_1, ⟨by decide +kernel, by decide +kernel, by decide +kernel⟩, by decide⟩
set_option maxRecDepth 20000 in
set_option maxHeartbeats 4000000 in
theorem c_L_chance {G : Gt} {l : Launch} {v1 : Int32} {σ : St} {r : UInt64} {σ' : St} (hf : pf_X10_chance 0 v1 σ = some (.inr r, σ')) : CtL G l yL_chance cL_chance 4 [(0, 8, 11, 21)] 10 [.ref (gz G + 0), .int v1, .ref (gz G + 621)] σ 0 (sD σ' 621 0 r) := by
  refine met_L (by decide +kernel) (Nat.le_of_ble_eq_true rfl) ?_
  intro p e s m args below meth c Q ls hfl htab X X1 hW hret hl
  have hx := X.1.1
  have hb := X.1.2.1
  have hl : lv_has ls 4 [(0, .ref (gz G + 0)), (1, .int v1), (2, .ref (gz G + 621))] := hl
  refine lv_aload_n hx hb dL_chance_0 rfl (lv_at hl 2 rfl) ?_
  refine lv_iconst (v := 0) hx hb dL_chance_1 (by decide) ?_
  refine lv_aload_n hx hb dL_chance_2 rfl (lv_at hl 0 rfl) ?_
  refine lv_iload_n hx hb dL_chance_3 rfl (lv_at hl 1 rfl) ?_
  refine call_V1 X hW (kC_X10 k0_9) ml_5_132 ml_5_133 ml_5_134 mwL_chance (c_X10_chance k0_9 hf) (by decide) rfl rfl (Nat.le_of_ble_eq_true rfl) hl.1 dL_chance_4 ?_
  clear hW; intro H locs hW
  refine r_dast X hW k621 in621 dL_chance_7 ?_
  clear hW; intro H locs hW
  refine lv_goto (tgt := 14) hx hb dL_chance_8 (by decide) ?_
  refine lv_iconst (v := 0) hx hb dL_chance_14 (by decide) ?_
  exact hret 0 0 (Nat.zero_le _) (Nat.zero_le _) _ _ _ _ dL_chance_15 hW
set_option maxRecDepth 20000 in
set_option maxHeartbeats 4000000 in
theorem x_L_chance_2 {G : Gt} {l : Launch} {v1 : Int32} {σ : St} {σ' : St} (hf : pf_X10_chance 0 v1 σ = some (.inl 2, σ')) : CtL G l yL_chance cL_chance 4 [(0, 8, 11, 21)] 10 [.ref (gz G + 0), .int v1, .ref (gz G + 621)] σ 1 σ' := by
  refine met_L (by decide +kernel) (Nat.le_of_ble_eq_true rfl) ?_
  intro p e s m args below meth c Q ls hfl htab X X1 hW hret hl
  have hx := X.1.1
  have hb := X.1.2.1
  have hl : lv_has ls 4 [(0, .ref (gz G + 0)), (1, .int v1), (2, .ref (gz G + 621))] := hl
  refine lv_aload_n hx hb dL_chance_0 rfl (lv_at hl 2 rfl) ?_
  refine lv_iconst (v := 0) hx hb dL_chance_1 (by decide) ?_
  refine lv_aload_n hx hb dL_chance_2 rfl (lv_at hl 0 rfl) ?_
  refine lv_iload_n hx hb dL_chance_3 rfl (lv_at hl 1 rfl) ?_
  refine tcall_VC X hW (kC_X10 k0_9) ml_5_132 ml_5_133 ml_5_134 mwL_chance (x_X10_chance k0_9 hf) hfl (by decide) rfl rfl (Nat.le_of_ble_eq_true rfl) hl.1 dL_chance_4 (Nat.le_refl _) (Nat.le_refl _) ?_
  clear hW; intro H locs q ce hW hq hv hcl
  refine vx_catch (own := RL) (E := exN 2) (name := exN 2) X.1.2.2.2.1 [] ⟨0, 8, 11, 21⟩ [] (htab.trans rfl) ?_ rfl (by decide) (X.1.2.2.2.2 _ ml_5_6) (X.1.2.2.2.2 _ ml_3_119) hq hv hcl ?_
  · exact fun z hz => absurd hz List.not_mem_nil
  · refine lv_astore_n hx hb dL_chance_11 rfl hl (by decide) rfl ?_
    intro ls2 hl2
    refine lv_iconst (v := 1) hx hb dL_chance_12 (by decide) ?_
    exact hret 1 6 (Nat.le_refl _) (Nat.le_refl _) _ _ _ _ dL_chance_13 hW
theorem mvL_tell : ML yL_tell cL_tell 5 [(0, 10, 13, 13), (0, 10, 17, 73)] 4 := ⟨ml_5_139, by decide +kernel, ml_1_0, ⟨by decide +kernel, by decide +kernel, by decide +kernel⟩, by decide⟩
theorem mwL_tell : MV yX10_tell cX10_tell 3 (some .int) 2 := ⟨ml_5_144, by decide +kernel, ml_1_1, ⟨by decide +kernel, by decide +kernel, by decide +kernel⟩, by decide⟩
set_option maxRecDepth 20000 in
set_option maxHeartbeats 4000000 in
theorem c_L_tell {G : Gt} {l : Launch} {v1 : Int32} {v2 : Int32} {σ : St} {r : Int32} {σ' : St} (hf : pf_X10_tell 0 v1 v2 σ = some (.inr r, σ')) : CtL G l yL_tell cL_tell 5 [(0, 10, 13, 13), (0, 10, 17, 73)] 9 [.ref (gz G + 0), .int v1, .int v2, .ref (gz G + 620)] σ 0 (sL σ' 620 0 r.toInt64) := by
  refine met_L (by decide +kernel) (Nat.le_of_ble_eq_true rfl) ?_
  intro p e s m args below meth c Q ls hfl htab X X1 hW hret hl
  have hx := X.1.1
  have hb := X.1.2.1
  have hl : lv_has ls 5 [(0, .ref (gz G + 0)), (1, .int v1), (2, .int v2), (3, .ref (gz G + 620))] := hl
  refine lv_aload_n hx hb dL_tell_0 rfl (lv_at hl 3 rfl) ?_
  refine lv_iconst (v := 0) hx hb dL_tell_1 (by decide) ?_
  refine lv_aload_n hx hb dL_tell_2 rfl (lv_at hl 0 rfl) ?_
  refine lv_iload_n hx hb dL_tell_3 rfl (lv_at hl 1 rfl) ?_
  refine lv_iload_n hx hb dL_tell_4 rfl (lv_at hl 2 rfl) ?_
  refine call_V1 X hW (kC_X10 k0_9) ml_5_141 ml_5_142 ml_5_143 mwL_tell (c_X10_tell k0_9 hf) (by decide) rfl rfl (Nat.le_of_ble_eq_true rfl) hl.1 dL_tell_5 ?_
  clear hW; intro H locs hW
  refine lv_i2l hx hb dL_tell_8 rfl ?_
  refine r_last X hW k620 in620 dL_tell_9 ?_
  clear hW; intro H locs hW
  refine lv_goto (tgt := 21) hx hb dL_tell_10 (by decide) ?_
  refine lv_iconst (v := 0) hx hb dL_tell_21 (by decide) ?_
  exact hret 0 0 (Nat.zero_le _) (Nat.zero_le _) _ _ _ _ dL_tell_22 hW
set_option maxRecDepth 20000 in
set_option maxHeartbeats 4000000 in
theorem x_L_tell_1 {G : Gt} {l : Launch} {v1 : Int32} {v2 : Int32} {σ : St} {σ' : St} (hf : pf_X10_tell 0 v1 v2 σ = some (.inl 1, σ')) : CtL G l yL_tell cL_tell 5 [(0, 10, 13, 13), (0, 10, 17, 73)] 9 [.ref (gz G + 0), .int v1, .int v2, .ref (gz G + 620)] σ 1 σ' := by
  refine met_L (by decide +kernel) (Nat.le_of_ble_eq_true rfl) ?_
  intro p e s m args below meth c Q ls hfl htab X X1 hW hret hl
  have hx := X.1.1
  have hb := X.1.2.1
  have hl : lv_has ls 5 [(0, .ref (gz G + 0)), (1, .int v1), (2, .int v2), (3, .ref (gz G + 620))] := hl
  refine lv_aload_n hx hb dL_tell_0 rfl (lv_at hl 3 rfl) ?_
  refine lv_iconst (v := 0) hx hb dL_tell_1 (by decide) ?_
  refine lv_aload_n hx hb dL_tell_2 rfl (lv_at hl 0 rfl) ?_
  refine lv_iload_n hx hb dL_tell_3 rfl (lv_at hl 1 rfl) ?_
  refine lv_iload_n hx hb dL_tell_4 rfl (lv_at hl 2 rfl) ?_
  refine tcall_VC X hW (kC_X10 k0_9) ml_5_141 ml_5_142 ml_5_143 mwL_tell (x_X10_tell k0_9 hf) hfl (by decide) rfl rfl (Nat.le_of_ble_eq_true rfl) hl.1 dL_tell_5 (Nat.le_refl _) (Nat.le_refl _) ?_
  clear hW; intro H locs q ce hW hq hv hcl
  refine vx_catch (own := RL) (E := exN 1) (name := exN 1) X.1.2.2.2.1 [] ⟨0, 10, 13, 13⟩ [⟨0, 10, 17, 73⟩] (htab.trans rfl) ?_ rfl (by decide) (X.1.2.2.2.2 _ ml_3_160) (X.1.2.2.2.2 _ ml_3_24) hq hv hcl ?_
  · exact fun z hz => absurd hz List.not_mem_nil
  · refine lv_astore hx hb dL_tell_13 hl (by decide) rfl ?_
    intro ls2 hl2
    refine lv_iconst (v := 1) hx hb dL_tell_15 (by decide) ?_
    exact hret 1 6 (Nat.le_refl _) (Nat.le_refl _) _ _ _ _ dL_tell_16 hW
set_option maxRecDepth 20000 in
set_option maxHeartbeats 4000000 in
theorem x_L_tell_3 {G : Gt} {l : Launch} {v1 : Int32} {v2 : Int32} {σ : St} {σ' : St} (hf : pf_X10_tell 0 v1 v2 σ = some (.inl 3, σ')) : CtL G l yL_tell cL_tell 5 [(0, 10, 13, 13), (0, 10, 17, 73)] 9 [.ref (gz G + 0), .int v1, .int v2, .ref (gz G + 620)] σ 2 σ' := by
  refine met_L (by decide +kernel) (Nat.le_of_ble_eq_true rfl) ?_
  intro p e s m args below meth c Q ls hfl htab X X1 hW hret hl
  have hx := X.1.1
  have hb := X.1.2.1
  have hl : lv_has ls 5 [(0, .ref (gz G + 0)), (1, .int v1), (2, .int v2), (3, .ref (gz G + 620))] := hl
  refine lv_aload_n hx hb dL_tell_0 rfl (lv_at hl 3 rfl) ?_
  refine lv_iconst (v := 0) hx hb dL_tell_1 (by decide) ?_
  refine lv_aload_n hx hb dL_tell_2 rfl (lv_at hl 0 rfl) ?_
  refine lv_iload_n hx hb dL_tell_3 rfl (lv_at hl 1 rfl) ?_
  refine lv_iload_n hx hb dL_tell_4 rfl (lv_at hl 2 rfl) ?_
  refine tcall_VC X hW (kC_X10 k0_9) ml_5_141 ml_5_142 ml_5_143 mwL_tell (x_X10_tell k0_9 hf) hfl (by decide) rfl rfl (Nat.le_of_ble_eq_true rfl) hl.1 dL_tell_5 (Nat.le_refl _) (Nat.le_refl _) ?_
  clear hW; intro H locs q ce hW hq hv hcl
  refine vx_catch (own := RL) (E := exN 3) (name := exN 3) X.1.2.2.2.1 [⟨0, 10, 13, 13⟩] ⟨0, 10, 17, 73⟩ [] (htab.trans rfl) ?_ rfl (by decide) (X.1.2.2.2.2 _ ml_5_140) (X.1.2.2.2.2 _ ml_5_147) hq hv hcl ?_
  · have hN := X.2.1.2.2.2.2.2.2.2.2.2.2.2.2
    intro z hz
    rw [List.mem_singleton] at hz
    subst hz
    exact Or.inr ⟨by decide, exN 1, X.1.2.2.2.2 _ ml_3_160, hN 3 1 (by omega) (by omega) (by omega) (by omega) (by omega)⟩
  · refine lv_astore hx hb dL_tell_17 hl (by decide) rfl ?_
    intro ls2 hl2
    refine lv_iconst (v := 2) hx hb dL_tell_19 (by decide) ?_
    exact hret 1 6 (Nat.le_refl _) (Nat.le_refl _) _ _ _ _ dL_tell_20 hW
theorem mvL_attempt : ML yL_attempt cL_attempt 5 [(0, 10, 13, 21), (0, 10, 17, 73)] 4 := ⟨ml_5_166, by decide +kernel, ml_1_0, ⟨by decide +kernel, by decide +kernel, by decide +kernel⟩, by decide⟩
theorem mwL_attempt : MV yX10_attempt cX10_attempt 4 (some .int) 2 := ⟨ml_5_170, by decide +kernel, ml_1_1, ⟨by decide +kernel, by decide +kernel, by decide +kernel⟩, by decide⟩
set_option maxRecDepth 20000 in
set_option maxHeartbeats 4000000 in
theorem c_L_attempt {G : Gt} {l : Launch} {v1 : Int32} {v2 : Int32} {σ : St} {r : Int32} {σ' : St} (hf : pf_X10_attempt 0 v1 v2 σ = some (.inr r, σ')) : CtL G l yL_attempt cL_attempt 5 [(0, 10, 13, 21), (0, 10, 17, 73)] 11 [.ref (gz G + 0), .int v1, .int v2, .ref (gz G + 620)] σ 0 (sL σ' 620 0 r.toInt64) := by
  refine met_L (by decide +kernel) (Nat.le_of_ble_eq_true rfl) ?_
  intro p e s m args below meth c Q ls hfl htab X X1 hW hret hl
  have hx := X.1.1
  have hb := X.1.2.1
  have hl : lv_has ls 5 [(0, .ref (gz G + 0)), (1, .int v1), (2, .int v2), (3, .ref (gz G + 620))] := hl
  refine lv_aload_n hx hb dL_attempt_0 rfl (lv_at hl 3 rfl) ?_
  refine lv_iconst (v := 0) hx hb dL_attempt_1 (by decide) ?_
  refine lv_aload_n hx hb dL_attempt_2 rfl (lv_at hl 0 rfl) ?_
  refine lv_iload_n hx hb dL_attempt_3 rfl (lv_at hl 1 rfl) ?_
  refine lv_iload_n hx hb dL_attempt_4 rfl (lv_at hl 2 rfl) ?_
  refine call_V1 X hW (kC_X10 k0_9) ml_5_167 ml_5_168 ml_5_169 mwL_attempt (c_X10_attempt k0_9 hf) (by decide) rfl rfl (Nat.le_of_ble_eq_true rfl) hl.1 dL_attempt_5 ?_
  clear hW; intro H locs hW
  refine lv_i2l hx hb dL_attempt_8 rfl ?_
  refine r_last X hW k620 in620 dL_attempt_9 ?_
  clear hW; intro H locs hW
  refine lv_goto (tgt := 21) hx hb dL_attempt_10 (by decide) ?_
  refine lv_iconst (v := 0) hx hb dL_attempt_21 (by decide) ?_
  exact hret 0 0 (Nat.zero_le _) (Nat.zero_le _) _ _ _ _ dL_attempt_22 hW
set_option maxRecDepth 20000 in
set_option maxHeartbeats 4000000 in
theorem x_L_attempt_2 {G : Gt} {l : Launch} {v1 : Int32} {v2 : Int32} {σ : St} {σ' : St} (hf : pf_X10_attempt 0 v1 v2 σ = some (.inl 2, σ')) : CtL G l yL_attempt cL_attempt 5 [(0, 10, 13, 21), (0, 10, 17, 73)] 11 [.ref (gz G + 0), .int v1, .int v2, .ref (gz G + 620)] σ 1 σ' := by
  refine met_L (by decide +kernel) (Nat.le_of_ble_eq_true rfl) ?_
  intro p e s m args below meth c Q ls hfl htab X X1 hW hret hl
  have hx := X.1.1
  have hb := X.1.2.1
  have hl : lv_has ls 5 [(0, .ref (gz G + 0)), (1, .int v1), (2, .int v2), (3, .ref (gz G + 620))] := hl
  refine lv_aload_n hx hb dL_attempt_0 rfl (lv_at hl 3 rfl) ?_
  refine lv_iconst (v := 0) hx hb dL_attempt_1 (by decide) ?_
  refine lv_aload_n hx hb dL_attempt_2 rfl (lv_at hl 0 rfl) ?_
  refine lv_iload_n hx hb dL_attempt_3 rfl (lv_at hl 1 rfl) ?_
  refine lv_iload_n hx hb dL_attempt_4 rfl (lv_at hl 2 rfl) ?_
  refine tcall_VC X hW (kC_X10 k0_9) ml_5_167 ml_5_168 ml_5_169 mwL_attempt (x_X10_attempt k0_9 hf) hfl (by decide) rfl rfl (Nat.le_of_ble_eq_true rfl) hl.1 dL_attempt_5 (Nat.le_refl _) (Nat.le_refl _) ?_
  clear hW; intro H locs q ce hW hq hv hcl
  refine vx_catch (own := RL) (E := exN 2) (name := exN 2) X.1.2.2.2.1 [] ⟨0, 10, 13, 21⟩ [⟨0, 10, 17, 73⟩] (htab.trans rfl) ?_ rfl (by decide) (X.1.2.2.2.2 _ ml_5_6) (X.1.2.2.2.2 _ ml_3_119) hq hv hcl ?_
  · exact fun z hz => absurd hz List.not_mem_nil
  · refine lv_astore hx hb dL_attempt_13 hl (by decide) rfl ?_
    intro ls2 hl2
    refine lv_iconst (v := 1) hx hb dL_attempt_15 (by decide) ?_
    exact hret 1 6 (Nat.le_refl _) (Nat.le_refl _) _ _ _ _ dL_attempt_16 hW
set_option maxRecDepth 20000 in
set_option maxHeartbeats 4000000 in
theorem x_L_attempt_3 {G : Gt} {l : Launch} {v1 : Int32} {v2 : Int32} {σ : St} {σ' : St} (hf : pf_X10_attempt 0 v1 v2 σ = some (.inl 3, σ')) : CtL G l yL_attempt cL_attempt 5 [(0, 10, 13, 21), (0, 10, 17, 73)] 11 [.ref (gz G + 0), .int v1, .int v2, .ref (gz G + 620)] σ 2 σ' := by
  refine met_L (by decide +kernel) (Nat.le_of_ble_eq_true rfl) ?_
  intro p e s m args below meth c Q ls hfl htab X X1 hW hret hl
  have hx := X.1.1
  have hb := X.1.2.1
  have hl : lv_has ls 5 [(0, .ref (gz G + 0)), (1, .int v1), (2, .int v2), (3, .ref (gz G + 620))] := hl
  refine lv_aload_n hx hb dL_attempt_0 rfl (lv_at hl 3 rfl) ?_
  refine lv_iconst (v := 0) hx hb dL_attempt_1 (by decide) ?_
  refine lv_aload_n hx hb dL_attempt_2 rfl (lv_at hl 0 rfl) ?_
  refine lv_iload_n hx hb dL_attempt_3 rfl (lv_at hl 1 rfl) ?_
  refine lv_iload_n hx hb dL_attempt_4 rfl (lv_at hl 2 rfl) ?_
  refine tcall_VC X hW (kC_X10 k0_9) ml_5_167 ml_5_168 ml_5_169 mwL_attempt (x_X10_attempt k0_9 hf) hfl (by decide) rfl rfl (Nat.le_of_ble_eq_true rfl) hl.1 dL_attempt_5 (Nat.le_refl _) (Nat.le_refl _) ?_
  clear hW; intro H locs q ce hW hq hv hcl
  refine vx_catch (own := RL) (E := exN 3) (name := exN 3) X.1.2.2.2.1 [⟨0, 10, 13, 21⟩] ⟨0, 10, 17, 73⟩ [] (htab.trans rfl) ?_ rfl (by decide) (X.1.2.2.2.2 _ ml_5_140) (X.1.2.2.2.2 _ ml_5_147) hq hv hcl ?_
  · have hN := X.2.1.2.2.2.2.2.2.2.2.2.2.2.2
    intro z hz
    rw [List.mem_singleton] at hz
    subst hz
    exact Or.inr ⟨by decide, exN 2, X.1.2.2.2.2 _ ml_5_6, hN 3 2 (by omega) (by omega) (by omega) (by omega) (by omega)⟩
  · refine lv_astore hx hb dL_attempt_17 hl (by decide) rfl ?_
    intro ls2 hl2
    refine lv_iconst (v := 2) hx hb dL_attempt_19 (by decide) ?_
    exact hret 1 6 (Nat.le_refl _) (Nat.le_refl _) _ _ _ _ dL_attempt_20 hW
theorem mvL_play : ML yL_play cL_play 4 [(0, 9, 12, 21)] 3 := ⟨ml_5_193, by decide +kernel, ml_1_0, ⟨by decide +kernel, by decide +kernel, by decide +kernel⟩, by decide⟩
theorem mwL_play : MV yX10_play cX10_play 4 (some .int) 1 := ⟨ml_5_197, by decide +kernel, ml_1_1, ⟨by decide +kernel, by decide +kernel, by decide +kernel⟩, by decide⟩
set_option maxRecDepth 20000 in
set_option maxHeartbeats 4000000 in
theorem c_L_play {G : Gt} {l : Launch} {v1 : Int32} {σ : St} {r : Int32} {σ' : St} (hf : pf_X10_play 0 v1 σ = some (.inr r, σ')) : CtL G l yL_play cL_play 4 [(0, 9, 12, 21)] 10 [.ref (gz G + 0), .int v1, .ref (gz G + 620)] σ 0 (sL σ' 620 0 r.toInt64) := by
  refine met_L (by decide +kernel) (Nat.le_of_ble_eq_true rfl) ?_
  intro p e s m args below meth c Q ls hfl htab X X1 hW hret hl
  have hx := X.1.1
  have hb := X.1.2.1
  have hl : lv_has ls 4 [(0, .ref (gz G + 0)), (1, .int v1), (2, .ref (gz G + 620))] := hl
  refine lv_aload_n hx hb dL_play_0 rfl (lv_at hl 2 rfl) ?_
  refine lv_iconst (v := 0) hx hb dL_play_1 (by decide) ?_
  refine lv_aload_n hx hb dL_play_2 rfl (lv_at hl 0 rfl) ?_
  refine lv_iload_n hx hb dL_play_3 rfl (lv_at hl 1 rfl) ?_
  refine call_V1 X hW (kC_X10 k0_9) ml_5_194 ml_5_195 ml_5_196 mwL_play (c_X10_play k0_9 hf) (by decide) rfl rfl (Nat.le_of_ble_eq_true rfl) hl.1 dL_play_4 ?_
  clear hW; intro H locs hW
  refine lv_i2l hx hb dL_play_7 rfl ?_
  refine r_last X hW k620 in620 dL_play_8 ?_
  clear hW; intro H locs hW
  refine lv_goto (tgt := 15) hx hb dL_play_9 (by decide) ?_
  refine lv_iconst (v := 0) hx hb dL_play_15 (by decide) ?_
  exact hret 0 0 (Nat.zero_le _) (Nat.zero_le _) _ _ _ _ dL_play_16 hW
set_option maxRecDepth 20000 in
set_option maxHeartbeats 4000000 in
theorem x_L_play_2 {G : Gt} {l : Launch} {v1 : Int32} {σ : St} {σ' : St} (hf : pf_X10_play 0 v1 σ = some (.inl 2, σ')) : CtL G l yL_play cL_play 4 [(0, 9, 12, 21)] 10 [.ref (gz G + 0), .int v1, .ref (gz G + 620)] σ 1 σ' := by
  refine met_L (by decide +kernel) (Nat.le_of_ble_eq_true rfl) ?_
  intro p e s m args below meth c Q ls hfl htab X X1 hW hret hl
  have hx := X.1.1
  have hb := X.1.2.1
  have hl : lv_has ls 4 [(0, .ref (gz G + 0)), (1, .int v1), (2, .ref (gz G + 620))] := hl
  refine lv_aload_n hx hb dL_play_0 rfl (lv_at hl 2 rfl) ?_
  refine lv_iconst (v := 0) hx hb dL_play_1 (by decide) ?_
  refine lv_aload_n hx hb dL_play_2 rfl (lv_at hl 0 rfl) ?_
  refine lv_iload_n hx hb dL_play_3 rfl (lv_at hl 1 rfl) ?_
  refine tcall_VC X hW (kC_X10 k0_9) ml_5_194 ml_5_195 ml_5_196 mwL_play (x_X10_play k0_9 hf) hfl (by decide) rfl rfl (Nat.le_of_ble_eq_true rfl) hl.1 dL_play_4 (Nat.le_refl _) (Nat.le_refl _) ?_
  clear hW; intro H locs q ce hW hq hv hcl
  refine vx_catch (own := RL) (E := exN 2) (name := exN 2) X.1.2.2.2.1 [] ⟨0, 9, 12, 21⟩ [] (htab.trans rfl) ?_ rfl (by decide) (X.1.2.2.2.2 _ ml_5_6) (X.1.2.2.2.2 _ ml_3_119) hq hv hcl ?_
  · exact fun z hz => absurd hz List.not_mem_nil
  · refine lv_astore_n hx hb dL_play_12 rfl hl (by decide) rfl ?_
    intro ls2 hl2
    refine lv_iconst (v := 1) hx hb dL_play_13 (by decide) ?_
    exact hret 1 6 (Nat.le_refl _) (Nat.le_refl _) _ _ _ _ dL_play_14 hW
theorem mvL_add : ML yL_add cL_add 5 [(0, 10, 13, 21), (0, 10, 17, 13), (0, 10, 21, 73)] 4 := ⟨ml_5_201, by decide +kernel, ml_1_0, ⟨by decide +kernel, by decide +kernel, by decide +kernel⟩, by decide⟩
theorem mwL_add : MV yX10_add cX10_add 4 (some .int) 2 := ⟨ml_5_205, by decide +kernel, ml_1_1, ⟨by decide +kernel, by decide +kernel, by decide +kernel⟩, by decide⟩
set_option maxRecDepth 20000 in
set_option maxHeartbeats 4000000 in
theorem c_L_add {G : Gt} {l : Launch} {v1 : Int32} {v2 : Int32} {σ : St} {r : Int32} {σ' : St} (hf : pf_X10_add 0 v1 v2 σ = some (.inr r, σ')) : CtL G l yL_add cL_add 5 [(0, 10, 13, 21), (0, 10, 17, 13), (0, 10, 21, 73)] 10 [.ref (gz G + 0), .int v1, .int v2, .ref (gz G + 620)] σ 0 (sL σ' 620 0 r.toInt64) := by
  refine met_L (by decide +kernel) (Nat.le_of_ble_eq_true rfl) ?_
  intro p e s m args below meth c Q ls hfl htab X X1 hW hret hl
  have hx := X.1.1
  have hb := X.1.2.1
  have hl : lv_has ls 5 [(0, .ref (gz G + 0)), (1, .int v1), (2, .int v2), (3, .ref (gz G + 620))] := hl
  refine lv_aload_n hx hb dL_add_0 rfl (lv_at hl 3 rfl) ?_
  refine lv_iconst (v := 0) hx hb dL_add_1 (by decide) ?_
  refine lv_aload_n hx hb dL_add_2 rfl (lv_at hl 0 rfl) ?_
  refine lv_iload_n hx hb dL_add_3 rfl (lv_at hl 1 rfl) ?_
  refine lv_iload_n hx hb dL_add_4 rfl (lv_at hl 2 rfl) ?_
  refine call_V1 X hW (kC_X10 k0_9) ml_5_202 ml_5_203 ml_5_204 mwL_add (c_X10_add k0_9 hf) (by decide) rfl rfl (Nat.le_of_ble_eq_true rfl) hl.1 dL_add_5 ?_
  clear hW; intro H locs hW
  refine lv_i2l hx hb dL_add_8 rfl ?_
  refine r_last X hW k620 in620 dL_add_9 ?_
  clear hW; intro H locs hW
  refine lv_goto (tgt := 25) hx hb dL_add_10 (by decide) ?_
  refine lv_iconst (v := 0) hx hb dL_add_25 (by decide) ?_
  exact hret 0 0 (Nat.zero_le _) (Nat.zero_le _) _ _ _ _ dL_add_26 hW
set_option maxRecDepth 20000 in
set_option maxHeartbeats 4000000 in
theorem x_L_add_2 {G : Gt} {l : Launch} {v1 : Int32} {v2 : Int32} {σ : St} {σ' : St} (hf : pf_X10_add 0 v1 v2 σ = some (.inl 2, σ')) : CtL G l yL_add cL_add 5 [(0, 10, 13, 21), (0, 10, 17, 13), (0, 10, 21, 73)] 10 [.ref (gz G + 0), .int v1, .int v2, .ref (gz G + 620)] σ 1 σ' := by
  refine met_L (by decide +kernel) (Nat.le_of_ble_eq_true rfl) ?_
  intro p e s m args below meth c Q ls hfl htab X X1 hW hret hl
  have hx := X.1.1
  have hb := X.1.2.1
  have hl : lv_has ls 5 [(0, .ref (gz G + 0)), (1, .int v1), (2, .int v2), (3, .ref (gz G + 620))] := hl
  refine lv_aload_n hx hb dL_add_0 rfl (lv_at hl 3 rfl) ?_
  refine lv_iconst (v := 0) hx hb dL_add_1 (by decide) ?_
  refine lv_aload_n hx hb dL_add_2 rfl (lv_at hl 0 rfl) ?_
  refine lv_iload_n hx hb dL_add_3 rfl (lv_at hl 1 rfl) ?_
  refine lv_iload_n hx hb dL_add_4 rfl (lv_at hl 2 rfl) ?_
  refine tcall_VC X hW (kC_X10 k0_9) ml_5_202 ml_5_203 ml_5_204 mwL_add (x_X10_add k0_9 hf) hfl (by decide) rfl rfl (Nat.le_of_ble_eq_true rfl) hl.1 dL_add_5 (Nat.le_refl _) (Nat.le_refl _) ?_
  clear hW; intro H locs q ce hW hq hv hcl
  refine vx_catch (own := RL) (E := exN 2) (name := exN 2) X.1.2.2.2.1 [] ⟨0, 10, 13, 21⟩ [⟨0, 10, 17, 13⟩, ⟨0, 10, 21, 73⟩] (htab.trans rfl) ?_ rfl (by decide) (X.1.2.2.2.2 _ ml_5_6) (X.1.2.2.2.2 _ ml_3_119) hq hv hcl ?_
  · exact fun z hz => absurd hz List.not_mem_nil
  · refine lv_astore hx hb dL_add_13 hl (by decide) rfl ?_
    intro ls2 hl2
    refine lv_iconst (v := 1) hx hb dL_add_15 (by decide) ?_
    exact hret 1 6 (Nat.le_refl _) (Nat.le_refl _) _ _ _ _ dL_add_16 hW
set_option maxRecDepth 20000 in
set_option maxHeartbeats 4000000 in
theorem x_L_add_1 {G : Gt} {l : Launch} {v1 : Int32} {v2 : Int32} {σ : St} {σ' : St} (hf : pf_X10_add 0 v1 v2 σ = some (.inl 1, σ')) : CtL G l yL_add cL_add 5 [(0, 10, 13, 21), (0, 10, 17, 13), (0, 10, 21, 73)] 10 [.ref (gz G + 0), .int v1, .int v2, .ref (gz G + 620)] σ 2 σ' := by
  refine met_L (by decide +kernel) (Nat.le_of_ble_eq_true rfl) ?_
  intro p e s m args below meth c Q ls hfl htab X X1 hW hret hl
  have hx := X.1.1
  have hb := X.1.2.1
  have hl : lv_has ls 5 [(0, .ref (gz G + 0)), (1, .int v1), (2, .int v2), (3, .ref (gz G + 620))] := hl
  refine lv_aload_n hx hb dL_add_0 rfl (lv_at hl 3 rfl) ?_
  refine lv_iconst (v := 0) hx hb dL_add_1 (by decide) ?_
  refine lv_aload_n hx hb dL_add_2 rfl (lv_at hl 0 rfl) ?_
  refine lv_iload_n hx hb dL_add_3 rfl (lv_at hl 1 rfl) ?_
  refine lv_iload_n hx hb dL_add_4 rfl (lv_at hl 2 rfl) ?_
  refine tcall_VC X hW (kC_X10 k0_9) ml_5_202 ml_5_203 ml_5_204 mwL_add (x_X10_add k0_9 hf) hfl (by decide) rfl rfl (Nat.le_of_ble_eq_true rfl) hl.1 dL_add_5 (Nat.le_refl _) (Nat.le_refl _) ?_
  clear hW; intro H locs q ce hW hq hv hcl
  refine vx_catch (own := RL) (E := exN 1) (name := exN 1) X.1.2.2.2.1 [⟨0, 10, 13, 21⟩] ⟨0, 10, 17, 13⟩ [⟨0, 10, 21, 73⟩] (htab.trans rfl) ?_ rfl (by decide) (X.1.2.2.2.2 _ ml_3_160) (X.1.2.2.2.2 _ ml_3_24) hq hv hcl ?_
  · have hN := X.2.1.2.2.2.2.2.2.2.2.2.2.2.2
    intro z hz
    rw [List.mem_singleton] at hz
    subst hz
    exact Or.inr ⟨by decide, exN 2, X.1.2.2.2.2 _ ml_5_6, hN 1 2 (by omega) (by omega) (by omega) (by omega) (by omega)⟩
  · refine lv_astore hx hb dL_add_17 hl (by decide) rfl ?_
    intro ls2 hl2
    refine lv_iconst (v := 2) hx hb dL_add_19 (by decide) ?_
    exact hret 1 6 (Nat.le_refl _) (Nat.le_refl _) _ _ _ _ dL_add_20 hW
set_option maxRecDepth 20000 in
set_option maxHeartbeats 4000000 in
theorem x_L_add_3 {G : Gt} {l : Launch} {v1 : Int32} {v2 : Int32} {σ : St} {σ' : St} (hf : pf_X10_add 0 v1 v2 σ = some (.inl 3, σ')) : CtL G l yL_add cL_add 5 [(0, 10, 13, 21), (0, 10, 17, 13), (0, 10, 21, 73)] 10 [.ref (gz G + 0), .int v1, .int v2, .ref (gz G + 620)] σ 3 σ' := by
  refine met_L (by decide +kernel) (Nat.le_of_ble_eq_true rfl) ?_
  intro p e s m args below meth c Q ls hfl htab X X1 hW hret hl
  have hx := X.1.1
  have hb := X.1.2.1
  have hl : lv_has ls 5 [(0, .ref (gz G + 0)), (1, .int v1), (2, .int v2), (3, .ref (gz G + 620))] := hl
  refine lv_aload_n hx hb dL_add_0 rfl (lv_at hl 3 rfl) ?_
  refine lv_iconst (v := 0) hx hb dL_add_1 (by decide) ?_
  refine lv_aload_n hx hb dL_add_2 rfl (lv_at hl 0 rfl) ?_
  refine lv_iload_n hx hb dL_add_3 rfl (lv_at hl 1 rfl) ?_
  refine lv_iload_n hx hb dL_add_4 rfl (lv_at hl 2 rfl) ?_
  refine tcall_VC X hW (kC_X10 k0_9) ml_5_202 ml_5_203 ml_5_204 mwL_add (x_X10_add k0_9 hf) hfl (by decide) rfl rfl (Nat.le_of_ble_eq_true rfl) hl.1 dL_add_5 (Nat.le_refl _) (Nat.le_refl _) ?_
  clear hW; intro H locs q ce hW hq hv hcl
  refine vx_catch (own := RL) (E := exN 3) (name := exN 3) X.1.2.2.2.1 [⟨0, 10, 13, 21⟩, ⟨0, 10, 17, 13⟩] ⟨0, 10, 21, 73⟩ [] (htab.trans rfl) ?_ rfl (by decide) (X.1.2.2.2.2 _ ml_5_140) (X.1.2.2.2.2 _ ml_5_147) hq hv hcl ?_
  · have hN := X.2.1.2.2.2.2.2.2.2.2.2.2.2.2
    intro z hz
    rw [List.mem_cons, List.mem_singleton] at hz
    rcases hz with rfl | rfl
    · exact Or.inr ⟨by decide, exN 2, X.1.2.2.2.2 _ ml_5_6, hN 3 2 (by omega) (by omega) (by omega) (by omega) (by omega)⟩
    · exact Or.inr ⟨by decide, exN 1, X.1.2.2.2.2 _ ml_3_160, hN 3 1 (by omega) (by omega) (by omega) (by omega) (by omega)⟩
  · refine lv_astore hx hb dL_add_21 hl (by decide) rfl ?_
    intro ls2 hl2
    refine lv_iconst (v := 3) hx hb dL_add_23 (by decide) ?_
    exact hret 1 6 (Nat.le_refl _) (Nat.le_refl _) _ _ _ _ dL_add_24 hW
theorem mvL_spend : ML yL_spend cL_spend 5 [(0, 10, 13, 21), (0, 10, 17, 13), (0, 10, 21, 73)] 4 := ⟨ml_5_212, by decide +kernel, ml_1_0, ⟨by decide +kernel, by decide +kernel, by decide +kernel⟩, by decide⟩
theorem mwL_spend : MV yX10_spend cX10_spend 4 (some .int) 2 := ⟨ml_5_216, by decide +kernel, ml_1_1, ⟨by decide +kernel, by decide +kernel, by decide +kernel⟩, by decide⟩
set_option maxRecDepth 20000 in
set_option maxHeartbeats 4000000 in
theorem c_L_spend {G : Gt} {l : Launch} {v1 : Int32} {v2 : Int32} {σ : St} {r : Int32} {σ' : St} (hf : pf_X10_spend 0 v1 v2 σ = some (.inr r, σ')) : CtL G l yL_spend cL_spend 5 [(0, 10, 13, 21), (0, 10, 17, 13), (0, 10, 21, 73)] 10 [.ref (gz G + 0), .int v1, .int v2, .ref (gz G + 620)] σ 0 (sL σ' 620 0 r.toInt64) := by
  refine met_L (by decide +kernel) (Nat.le_of_ble_eq_true rfl) ?_
  intro p e s m args below meth c Q ls hfl htab X X1 hW hret hl
  have hx := X.1.1
  have hb := X.1.2.1
  have hl : lv_has ls 5 [(0, .ref (gz G + 0)), (1, .int v1), (2, .int v2), (3, .ref (gz G + 620))] := hl
  refine lv_aload_n hx hb dL_spend_0 rfl (lv_at hl 3 rfl) ?_
  refine lv_iconst (v := 0) hx hb dL_spend_1 (by decide) ?_
  refine lv_aload_n hx hb dL_spend_2 rfl (lv_at hl 0 rfl) ?_
  refine lv_iload_n hx hb dL_spend_3 rfl (lv_at hl 1 rfl) ?_
  refine lv_iload_n hx hb dL_spend_4 rfl (lv_at hl 2 rfl) ?_
  refine call_V1 X hW (kC_X10 k0_9) ml_5_213 ml_5_214 ml_5_215 mwL_spend (c_X10_spend k0_9 hf) (by decide) rfl rfl (Nat.le_of_ble_eq_true rfl) hl.1 dL_spend_5 ?_
  clear hW; intro H locs hW
  refine lv_i2l hx hb dL_spend_8 rfl ?_
  refine r_last X hW k620 in620 dL_spend_9 ?_
  clear hW; intro H locs hW
  refine lv_goto (tgt := 25) hx hb dL_spend_10 (by decide) ?_
  refine lv_iconst (v := 0) hx hb dL_spend_25 (by decide) ?_
  exact hret 0 0 (Nat.zero_le _) (Nat.zero_le _) _ _ _ _ dL_spend_26 hW
set_option maxRecDepth 20000 in
set_option maxHeartbeats 4000000 in
theorem x_L_spend_2 {G : Gt} {l : Launch} {v1 : Int32} {v2 : Int32} {σ : St} {σ' : St} (hf : pf_X10_spend 0 v1 v2 σ = some (.inl 2, σ')) : CtL G l yL_spend cL_spend 5 [(0, 10, 13, 21), (0, 10, 17, 13), (0, 10, 21, 73)] 10 [.ref (gz G + 0), .int v1, .int v2, .ref (gz G + 620)] σ 1 σ' := by
  refine met_L (by decide +kernel) (Nat.le_of_ble_eq_true rfl) ?_
  intro p e s m args below meth c Q ls hfl htab X X1 hW hret hl
  have hx := X.1.1
  have hb := X.1.2.1
  have hl : lv_has ls 5 [(0, .ref (gz G + 0)), (1, .int v1), (2, .int v2), (3, .ref (gz G + 620))] := hl
  refine lv_aload_n hx hb dL_spend_0 rfl (lv_at hl 3 rfl) ?_
  refine lv_iconst (v := 0) hx hb dL_spend_1 (by decide) ?_
  refine lv_aload_n hx hb dL_spend_2 rfl (lv_at hl 0 rfl) ?_
  refine lv_iload_n hx hb dL_spend_3 rfl (lv_at hl 1 rfl) ?_
  refine lv_iload_n hx hb dL_spend_4 rfl (lv_at hl 2 rfl) ?_
  refine tcall_VC X hW (kC_X10 k0_9) ml_5_213 ml_5_214 ml_5_215 mwL_spend (x_X10_spend k0_9 hf) hfl (by decide) rfl rfl (Nat.le_of_ble_eq_true rfl) hl.1 dL_spend_5 (Nat.le_refl _) (Nat.le_refl _) ?_
  clear hW; intro H locs q ce hW hq hv hcl
  refine vx_catch (own := RL) (E := exN 2) (name := exN 2) X.1.2.2.2.1 [] ⟨0, 10, 13, 21⟩ [⟨0, 10, 17, 13⟩, ⟨0, 10, 21, 73⟩] (htab.trans rfl) ?_ rfl (by decide) (X.1.2.2.2.2 _ ml_5_6) (X.1.2.2.2.2 _ ml_3_119) hq hv hcl ?_
  · exact fun z hz => absurd hz List.not_mem_nil
  · refine lv_astore hx hb dL_spend_13 hl (by decide) rfl ?_
    intro ls2 hl2
    refine lv_iconst (v := 1) hx hb dL_spend_15 (by decide) ?_
    exact hret 1 6 (Nat.le_refl _) (Nat.le_refl _) _ _ _ _ dL_spend_16 hW
set_option maxRecDepth 20000 in
set_option maxHeartbeats 4000000 in
theorem x_L_spend_1 {G : Gt} {l : Launch} {v1 : Int32} {v2 : Int32} {σ : St} {σ' : St} (hf : pf_X10_spend 0 v1 v2 σ = some (.inl 1, σ')) : CtL G l yL_spend cL_spend 5 [(0, 10, 13, 21), (0, 10, 17, 13), (0, 10, 21, 73)] 10 [.ref (gz G + 0), .int v1, .int v2, .ref (gz G + 620)] σ 2 σ' := by
  refine met_L (by decide +kernel) (Nat.le_of_ble_eq_true rfl) ?_
  intro p e s m args below meth c Q ls hfl htab X X1 hW hret hl
  have hx := X.1.1
  have hb := X.1.2.1
  have hl : lv_has ls 5 [(0, .ref (gz G + 0)), (1, .int v1), (2, .int v2), (3, .ref (gz G + 620))] := hl
  refine lv_aload_n hx hb dL_spend_0 rfl (lv_at hl 3 rfl) ?_
  refine lv_iconst (v := 0) hx hb dL_spend_1 (by decide) ?_
  refine lv_aload_n hx hb dL_spend_2 rfl (lv_at hl 0 rfl) ?_
  refine lv_iload_n hx hb dL_spend_3 rfl (lv_at hl 1 rfl) ?_
  refine lv_iload_n hx hb dL_spend_4 rfl (lv_at hl 2 rfl) ?_
  refine tcall_VC X hW (kC_X10 k0_9) ml_5_213 ml_5_214 ml_5_215 mwL_spend (x_X10_spend k0_9 hf) hfl (by decide) rfl rfl (Nat.le_of_ble_eq_true rfl) hl.1 dL_spend_5 (Nat.le_refl _) (Nat.le_refl _) ?_
  clear hW; intro H locs q ce hW hq hv hcl
  refine vx_catch (own := RL) (E := exN 1) (name := exN 1) X.1.2.2.2.1 [⟨0, 10, 13, 21⟩] ⟨0, 10, 17, 13⟩ [⟨0, 10, 21, 73⟩] (htab.trans rfl) ?_ rfl (by decide) (X.1.2.2.2.2 _ ml_3_160) (X.1.2.2.2.2 _ ml_3_24) hq hv hcl ?_
  · have hN := X.2.1.2.2.2.2.2.2.2.2.2.2.2.2
    intro z hz
    rw [List.mem_singleton] at hz
    subst hz
    exact Or.inr ⟨by decide, exN 2, X.1.2.2.2.2 _ ml_5_6, hN 1 2 (by omega) (by omega) (by omega) (by omega) (by omega)⟩
  · refine lv_astore hx hb dL_spend_17 hl (by decide) rfl ?_
    intro ls2 hl2
    refine lv_iconst (v := 2) hx hb dL_spend_19 (by decide) ?_
    exact hret 1 6 (Nat.le_refl _) (Nat.le_refl _) _ _ _ _ dL_spend_20 hW
set_option maxRecDepth 20000 in
set_option maxHeartbeats 4000000 in
theorem x_L_spend_3 {G : Gt} {l : Launch} {v1 : Int32} {v2 : Int32} {σ : St} {σ' : St} (hf : pf_X10_spend 0 v1 v2 σ = some (.inl 3, σ')) : CtL G l yL_spend cL_spend 5 [(0, 10, 13, 21), (0, 10, 17, 13), (0, 10, 21, 73)] 10 [.ref (gz G + 0), .int v1, .int v2, .ref (gz G + 620)] σ 3 σ' := by
  refine met_L (by decide +kernel) (Nat.le_of_ble_eq_true rfl) ?_
  intro p e s m args below meth c Q ls hfl htab X X1 hW hret hl
  have hx := X.1.1
  have hb := X.1.2.1
  have hl : lv_has ls 5 [(0, .ref (gz G + 0)), (1, .int v1), (2, .int v2), (3, .ref (gz G + 620))] := hl
  refine lv_aload_n hx hb dL_spend_0 rfl (lv_at hl 3 rfl) ?_
  refine lv_iconst (v := 0) hx hb dL_spend_1 (by decide) ?_
  refine lv_aload_n hx hb dL_spend_2 rfl (lv_at hl 0 rfl) ?_
  refine lv_iload_n hx hb dL_spend_3 rfl (lv_at hl 1 rfl) ?_
  refine lv_iload_n hx hb dL_spend_4 rfl (lv_at hl 2 rfl) ?_
  refine tcall_VC X hW (kC_X10 k0_9) ml_5_213 ml_5_214 ml_5_215 mwL_spend (x_X10_spend k0_9 hf) hfl (by decide) rfl rfl (Nat.le_of_ble_eq_true rfl) hl.1 dL_spend_5 (Nat.le_refl _) (Nat.le_refl _) ?_
  clear hW; intro H locs q ce hW hq hv hcl
  refine vx_catch (own := RL) (E := exN 3) (name := exN 3) X.1.2.2.2.1 [⟨0, 10, 13, 21⟩, ⟨0, 10, 17, 13⟩] ⟨0, 10, 21, 73⟩ [] (htab.trans rfl) ?_ rfl (by decide) (X.1.2.2.2.2 _ ml_5_140) (X.1.2.2.2.2 _ ml_5_147) hq hv hcl ?_
  · have hN := X.2.1.2.2.2.2.2.2.2.2.2.2.2.2
    intro z hz
    rw [List.mem_cons, List.mem_singleton] at hz
    rcases hz with rfl | rfl
    · exact Or.inr ⟨by decide, exN 2, X.1.2.2.2.2 _ ml_5_6, hN 3 2 (by omega) (by omega) (by omega) (by omega) (by omega)⟩
    · exact Or.inr ⟨by decide, exN 1, X.1.2.2.2.2 _ ml_3_160, hN 3 1 (by omega) (by omega) (by omega) (by omega) (by omega)⟩
  · refine lv_astore hx hb dL_spend_21 hl (by decide) rfl ?_
    intro ls2 hl2
    refine lv_iconst (v := 3) hx hb dL_spend_23 (by decide) ?_
    exact hret 1 6 (Nat.le_refl _) (Nat.le_refl _) _ _ _ _ dL_spend_24 hW
theorem mvL_mend : ML yL_mend cL_mend 5 [(0, 10, 13, 21)] 4 := ⟨ml_5_219, by decide +kernel, ml_1_0, ⟨by decide +kernel, by decide +kernel, by decide +kernel⟩, by decide⟩
theorem mwL_mend : MV yX10_mend cX10_mend 5 (some .int) 2 := ⟨ml_5_223, by decide +kernel, ml_1_1, ⟨by decide +kernel, by decide +kernel, by decide +kernel⟩, by decide⟩
set_option maxRecDepth 20000 in
set_option maxHeartbeats 4000000 in
theorem c_L_mend {G : Gt} {l : Launch} {v1 : Int32} {v2 : Int32} {σ : St} {r : Int32} {σ' : St} (hf : pf_X10_mend 0 v1 v2 σ = some (.inr r, σ')) : CtL G l yL_mend cL_mend 5 [(0, 10, 13, 21)] 11 [.ref (gz G + 0), .int v1, .int v2, .ref (gz G + 620)] σ 0 (sL σ' 620 0 r.toInt64) := by
  refine met_L (by decide +kernel) (Nat.le_of_ble_eq_true rfl) ?_
  intro p e s m args below meth c Q ls hfl htab X X1 hW hret hl
  have hx := X.1.1
  have hb := X.1.2.1
  have hl : lv_has ls 5 [(0, .ref (gz G + 0)), (1, .int v1), (2, .int v2), (3, .ref (gz G + 620))] := hl
  refine lv_aload_n hx hb dL_mend_0 rfl (lv_at hl 3 rfl) ?_
  refine lv_iconst (v := 0) hx hb dL_mend_1 (by decide) ?_
  refine lv_aload_n hx hb dL_mend_2 rfl (lv_at hl 0 rfl) ?_
  refine lv_iload_n hx hb dL_mend_3 rfl (lv_at hl 1 rfl) ?_
  refine lv_iload_n hx hb dL_mend_4 rfl (lv_at hl 2 rfl) ?_
  refine call_V1 X hW (kC_X10 k0_9) ml_5_220 ml_5_221 ml_5_222 mwL_mend (c_X10_mend k0_9 hf) (by decide) rfl rfl (Nat.le_of_ble_eq_true rfl) hl.1 dL_mend_5 ?_
  clear hW; intro H locs hW
  refine lv_i2l hx hb dL_mend_8 rfl ?_
  refine r_last X hW k620 in620 dL_mend_9 ?_
  clear hW; intro H locs hW
  refine lv_goto (tgt := 17) hx hb dL_mend_10 (by decide) ?_
  refine lv_iconst (v := 0) hx hb dL_mend_17 (by decide) ?_
  exact hret 0 0 (Nat.zero_le _) (Nat.zero_le _) _ _ _ _ dL_mend_18 hW
set_option maxRecDepth 20000 in
set_option maxHeartbeats 4000000 in
theorem x_L_mend_2 {G : Gt} {l : Launch} {v1 : Int32} {v2 : Int32} {σ : St} {σ' : St} (hf : pf_X10_mend 0 v1 v2 σ = some (.inl 2, σ')) : CtL G l yL_mend cL_mend 5 [(0, 10, 13, 21)] 11 [.ref (gz G + 0), .int v1, .int v2, .ref (gz G + 620)] σ 1 σ' := by
  refine met_L (by decide +kernel) (Nat.le_of_ble_eq_true rfl) ?_
  intro p e s m args below meth c Q ls hfl htab X X1 hW hret hl
  have hx := X.1.1
  have hb := X.1.2.1
  have hl : lv_has ls 5 [(0, .ref (gz G + 0)), (1, .int v1), (2, .int v2), (3, .ref (gz G + 620))] := hl
  refine lv_aload_n hx hb dL_mend_0 rfl (lv_at hl 3 rfl) ?_
  refine lv_iconst (v := 0) hx hb dL_mend_1 (by decide) ?_
  refine lv_aload_n hx hb dL_mend_2 rfl (lv_at hl 0 rfl) ?_
  refine lv_iload_n hx hb dL_mend_3 rfl (lv_at hl 1 rfl) ?_
  refine lv_iload_n hx hb dL_mend_4 rfl (lv_at hl 2 rfl) ?_
  refine tcall_VC X hW (kC_X10 k0_9) ml_5_220 ml_5_221 ml_5_222 mwL_mend (x_X10_mend k0_9 hf) hfl (by decide) rfl rfl (Nat.le_of_ble_eq_true rfl) hl.1 dL_mend_5 (Nat.le_refl _) (Nat.le_refl _) ?_
  clear hW; intro H locs q ce hW hq hv hcl
  refine vx_catch (own := RL) (E := exN 2) (name := exN 2) X.1.2.2.2.1 [] ⟨0, 10, 13, 21⟩ [] (htab.trans rfl) ?_ rfl (by decide) (X.1.2.2.2.2 _ ml_5_6) (X.1.2.2.2.2 _ ml_3_119) hq hv hcl ?_
  · exact fun z hz => absurd hz List.not_mem_nil
  · refine lv_astore hx hb dL_mend_13 hl (by decide) rfl ?_
    intro ls2 hl2
    refine lv_iconst (v := 1) hx hb dL_mend_15 (by decide) ?_
    exact hret 1 6 (Nat.le_refl _) (Nat.le_refl _) _ _ _ _ dL_mend_16 hW
theorem mvL_giveUp : ML yL_giveUp cL_giveUp 4 [(0, 9, 12, 21), (0, 9, 15, 73)] 3 := ⟨ml_5_226, by decide +kernel, ml_1_0, ⟨by decide +kernel, by decide +kernel, by decide +kernel⟩, by decide⟩
theorem mwL_giveUp : MV yX10_giveUp cX10_giveUp 3 (some .int) 1 := ⟨ml_5_230, by decide +kernel, ml_1_1, ⟨by decide +kernel, by decide +kernel, by decide +kernel⟩, by decide⟩
set_option maxRecDepth 20000 in
set_option maxHeartbeats 4000000 in
theorem c_L_giveUp {G : Gt} {l : Launch} {v1 : Int32} {σ : St} {r : Int32} {σ' : St} (hf : pf_X10_giveUp 0 v1 σ = some (.inr r, σ')) : CtL G l yL_giveUp cL_giveUp 4 [(0, 9, 12, 21), (0, 9, 15, 73)] 10 [.ref (gz G + 0), .int v1, .ref (gz G + 620)] σ 0 (sL σ' 620 0 r.toInt64) := by
  refine met_L (by decide +kernel) (Nat.le_of_ble_eq_true rfl) ?_
  intro p e s m args below meth c Q ls hfl htab X X1 hW hret hl
  have hx := X.1.1
  have hb := X.1.2.1
  have hl : lv_has ls 4 [(0, .ref (gz G + 0)), (1, .int v1), (2, .ref (gz G + 620))] := hl
  refine lv_aload_n hx hb dL_giveUp_0 rfl (lv_at hl 2 rfl) ?_
  refine lv_iconst (v := 0) hx hb dL_giveUp_1 (by decide) ?_
  refine lv_aload_n hx hb dL_giveUp_2 rfl (lv_at hl 0 rfl) ?_
  refine lv_iload_n hx hb dL_giveUp_3 rfl (lv_at hl 1 rfl) ?_
  refine call_V1 X hW (kC_X10 k0_9) ml_5_227 ml_5_228 ml_5_229 mwL_giveUp (c_X10_giveUp k0_9 hf) (by decide) rfl rfl (Nat.le_of_ble_eq_true rfl) hl.1 dL_giveUp_4 ?_
  clear hW; intro H locs hW
  refine lv_i2l hx hb dL_giveUp_7 rfl ?_
  refine r_last X hW k620 in620 dL_giveUp_8 ?_
  clear hW; intro H locs hW
  refine lv_goto (tgt := 18) hx hb dL_giveUp_9 (by decide) ?_
  refine lv_iconst (v := 0) hx hb dL_giveUp_18 (by decide) ?_
  exact hret 0 0 (Nat.zero_le _) (Nat.zero_le _) _ _ _ _ dL_giveUp_19 hW
set_option maxRecDepth 20000 in
set_option maxHeartbeats 4000000 in
theorem x_L_giveUp_2 {G : Gt} {l : Launch} {v1 : Int32} {σ : St} {σ' : St} (hf : pf_X10_giveUp 0 v1 σ = some (.inl 2, σ')) : CtL G l yL_giveUp cL_giveUp 4 [(0, 9, 12, 21), (0, 9, 15, 73)] 10 [.ref (gz G + 0), .int v1, .ref (gz G + 620)] σ 1 σ' := by
  refine met_L (by decide +kernel) (Nat.le_of_ble_eq_true rfl) ?_
  intro p e s m args below meth c Q ls hfl htab X X1 hW hret hl
  have hx := X.1.1
  have hb := X.1.2.1
  have hl : lv_has ls 4 [(0, .ref (gz G + 0)), (1, .int v1), (2, .ref (gz G + 620))] := hl
  refine lv_aload_n hx hb dL_giveUp_0 rfl (lv_at hl 2 rfl) ?_
  refine lv_iconst (v := 0) hx hb dL_giveUp_1 (by decide) ?_
  refine lv_aload_n hx hb dL_giveUp_2 rfl (lv_at hl 0 rfl) ?_
  refine lv_iload_n hx hb dL_giveUp_3 rfl (lv_at hl 1 rfl) ?_
  refine tcall_VC X hW (kC_X10 k0_9) ml_5_227 ml_5_228 ml_5_229 mwL_giveUp (x_X10_giveUp k0_9 hf) hfl (by decide) rfl rfl (Nat.le_of_ble_eq_true rfl) hl.1 dL_giveUp_4 (Nat.le_refl _) (Nat.le_refl _) ?_
  clear hW; intro H locs q ce hW hq hv hcl
  refine vx_catch (own := RL) (E := exN 2) (name := exN 2) X.1.2.2.2.1 [] ⟨0, 9, 12, 21⟩ [⟨0, 9, 15, 73⟩] (htab.trans rfl) ?_ rfl (by decide) (X.1.2.2.2.2 _ ml_5_6) (X.1.2.2.2.2 _ ml_3_119) hq hv hcl ?_
  · exact fun z hz => absurd hz List.not_mem_nil
  · refine lv_astore_n hx hb dL_giveUp_12 rfl hl (by decide) rfl ?_
    intro ls2 hl2
    refine lv_iconst (v := 1) hx hb dL_giveUp_13 (by decide) ?_
    exact hret 1 6 (Nat.le_refl _) (Nat.le_refl _) _ _ _ _ dL_giveUp_14 hW
set_option maxRecDepth 20000 in
set_option maxHeartbeats 4000000 in
theorem x_L_giveUp_3 {G : Gt} {l : Launch} {v1 : Int32} {σ : St} {σ' : St} (hf : pf_X10_giveUp 0 v1 σ = some (.inl 3, σ')) : CtL G l yL_giveUp cL_giveUp 4 [(0, 9, 12, 21), (0, 9, 15, 73)] 10 [.ref (gz G + 0), .int v1, .ref (gz G + 620)] σ 2 σ' := by
  refine met_L (by decide +kernel) (Nat.le_of_ble_eq_true rfl) ?_
  intro p e s m args below meth c Q ls hfl htab X X1 hW hret hl
  have hx := X.1.1
  have hb := X.1.2.1
  have hl : lv_has ls 4 [(0, .ref (gz G + 0)), (1, .int v1), (2, .ref (gz G + 620))] := hl
  refine lv_aload_n hx hb dL_giveUp_0 rfl (lv_at hl 2 rfl) ?_
  refine lv_iconst (v := 0) hx hb dL_giveUp_1 (by decide) ?_
  refine lv_aload_n hx hb dL_giveUp_2 rfl (lv_at hl 0 rfl) ?_
  refine lv_iload_n hx hb dL_giveUp_3 rfl (lv_at hl 1 rfl) ?_
  refine tcall_VC X hW (kC_X10 k0_9) ml_5_227 ml_5_228 ml_5_229 mwL_giveUp (x_X10_giveUp k0_9 hf) hfl (by decide) rfl rfl (Nat.le_of_ble_eq_true rfl) hl.1 dL_giveUp_4 (Nat.le_refl _) (Nat.le_refl _) ?_
  clear hW; intro H locs q ce hW hq hv hcl
  refine vx_catch (own := RL) (E := exN 3) (name := exN 3) X.1.2.2.2.1 [⟨0, 9, 12, 21⟩] ⟨0, 9, 15, 73⟩ [] (htab.trans rfl) ?_ rfl (by decide) (X.1.2.2.2.2 _ ml_5_140) (X.1.2.2.2.2 _ ml_5_147) hq hv hcl ?_
  · have hN := X.2.1.2.2.2.2.2.2.2.2.2.2.2.2
    intro z hz
    rw [List.mem_singleton] at hz
    subst hz
    exact Or.inr ⟨by decide, exN 2, X.1.2.2.2.2 _ ml_5_6, hN 3 2 (by omega) (by omega) (by omega) (by omega) (by omega)⟩
  · refine lv_astore_n hx hb dL_giveUp_15 rfl hl (by decide) rfl ?_
    intro ls2 hl2
    refine lv_iconst (v := 2) hx hb dL_giveUp_16 (by decide) ?_
    exact hret 1 6 (Nat.le_refl _) (Nat.le_refl _) _ _ _ _ dL_giveUp_17 hW
theorem mvL_reopen : ML yL_reopen cL_reopen 4 [(0, 9, 12, 21)] 3 := ⟨ml_5_233, by decide +kernel, ml_1_0, ⟨by decide +kernel, by decide +kernel, by decide +kernel⟩, by decide⟩
theorem mwL_reopen : MV yX10_reopen cX10_reopen 4 (some .int) 1 := ⟨ml_5_237, by decide +kernel, ml_1_1, ⟨by decide +kernel, by decide +kernel, by decide +kernel⟩, by decide⟩
set_option maxRecDepth 20000 in
set_option maxHeartbeats 4000000 in
theorem c_L_reopen {G : Gt} {l : Launch} {v1 : Int32} {σ : St} {r : Int32} {σ' : St} (hf : pf_X10_reopen 0 v1 σ = some (.inr r, σ')) : CtL G l yL_reopen cL_reopen 4 [(0, 9, 12, 21)] 10 [.ref (gz G + 0), .int v1, .ref (gz G + 620)] σ 0 (sL σ' 620 0 r.toInt64) := by
  refine met_L (by decide +kernel) (Nat.le_of_ble_eq_true rfl) ?_
  intro p e s m args below meth c Q ls hfl htab X X1 hW hret hl
  have hx := X.1.1
  have hb := X.1.2.1
  have hl : lv_has ls 4 [(0, .ref (gz G + 0)), (1, .int v1), (2, .ref (gz G + 620))] := hl
  refine lv_aload_n hx hb dL_reopen_0 rfl (lv_at hl 2 rfl) ?_
  refine lv_iconst (v := 0) hx hb dL_reopen_1 (by decide) ?_
  refine lv_aload_n hx hb dL_reopen_2 rfl (lv_at hl 0 rfl) ?_
  refine lv_iload_n hx hb dL_reopen_3 rfl (lv_at hl 1 rfl) ?_
  refine call_V1 X hW (kC_X10 k0_9) ml_5_234 ml_5_235 ml_5_236 mwL_reopen (c_X10_reopen k0_9 hf) (by decide) rfl rfl (Nat.le_of_ble_eq_true rfl) hl.1 dL_reopen_4 ?_
  clear hW; intro H locs hW
  refine lv_i2l hx hb dL_reopen_7 rfl ?_
  refine r_last X hW k620 in620 dL_reopen_8 ?_
  clear hW; intro H locs hW
  refine lv_goto (tgt := 15) hx hb dL_reopen_9 (by decide) ?_
  refine lv_iconst (v := 0) hx hb dL_reopen_15 (by decide) ?_
  exact hret 0 0 (Nat.zero_le _) (Nat.zero_le _) _ _ _ _ dL_reopen_16 hW
set_option maxRecDepth 20000 in
set_option maxHeartbeats 4000000 in
theorem x_L_reopen_2 {G : Gt} {l : Launch} {v1 : Int32} {σ : St} {σ' : St} (hf : pf_X10_reopen 0 v1 σ = some (.inl 2, σ')) : CtL G l yL_reopen cL_reopen 4 [(0, 9, 12, 21)] 10 [.ref (gz G + 0), .int v1, .ref (gz G + 620)] σ 1 σ' := by
  refine met_L (by decide +kernel) (Nat.le_of_ble_eq_true rfl) ?_
  intro p e s m args below meth c Q ls hfl htab X X1 hW hret hl
  have hx := X.1.1
  have hb := X.1.2.1
  have hl : lv_has ls 4 [(0, .ref (gz G + 0)), (1, .int v1), (2, .ref (gz G + 620))] := hl
  refine lv_aload_n hx hb dL_reopen_0 rfl (lv_at hl 2 rfl) ?_
  refine lv_iconst (v := 0) hx hb dL_reopen_1 (by decide) ?_
  refine lv_aload_n hx hb dL_reopen_2 rfl (lv_at hl 0 rfl) ?_
  refine lv_iload_n hx hb dL_reopen_3 rfl (lv_at hl 1 rfl) ?_
  refine tcall_VC X hW (kC_X10 k0_9) ml_5_234 ml_5_235 ml_5_236 mwL_reopen (x_X10_reopen k0_9 hf) hfl (by decide) rfl rfl (Nat.le_of_ble_eq_true rfl) hl.1 dL_reopen_4 (Nat.le_refl _) (Nat.le_refl _) ?_
  clear hW; intro H locs q ce hW hq hv hcl
  refine vx_catch (own := RL) (E := exN 2) (name := exN 2) X.1.2.2.2.1 [] ⟨0, 9, 12, 21⟩ [] (htab.trans rfl) ?_ rfl (by decide) (X.1.2.2.2.2 _ ml_5_6) (X.1.2.2.2.2 _ ml_3_119) hq hv hcl ?_
  · exact fun z hz => absurd hz List.not_mem_nil
  · refine lv_astore_n hx hb dL_reopen_12 rfl hl (by decide) rfl ?_
    intro ls2 hl2
    refine lv_iconst (v := 1) hx hb dL_reopen_13 (by decide) ?_
    exact hret 1 6 (Nat.le_refl _) (Nat.le_refl _) _ _ _ _ dL_reopen_14 hW
