theorem m_3_165 : Cond.native ⟨"java/lang/Object", "clone", "()Ljava/lang/Object;"⟩ ∈ TB := mem_t3 165 (by decide +kernel)
theorem m_3_166 : Cond.instanceMethod ⟨"java/lang/Object", "clone", "()Ljava/lang/Object;"⟩ ∈ TB := mem_t3 166 (by decide +kernel)
theorem m_3_232 : Cond.methodLink RJ7 310 ⟨"[B", "clone", "()Ljava/lang/Object;"⟩ ∈ TB := mem_t3 232 (by decide +kernel)
theorem m_3_233 : Cond.sameMethod "[B" "java/lang/Object" "clone" "()Ljava/lang/Object;" ∈ TB := mem_t3 233 (by decide +kernel)
theorem m_3_234 : Cond.selects "[B" ⟨"[B", "clone", "()Ljava/lang/Object;"⟩ ⟨"java/lang/Object", "clone", "()Ljava/lang/Object;"⟩ ∈ TB := mem_t3 234 (by decide +kernel)
theorem m_3_235 : Cond.castable "[B" "java/lang/Cloneable" ∈ TB := mem_t3 235 (by decide +kernel)
theorem m_3_236 : Cond.classLink RJ7 311 "[B" ∈ TB := mem_t3 236 (by decide +kernel)
theorem m_3_239 : Cond.methodLink RJ5 83 yJ5_isLatin1_aae02 ∈ TB := mem_t3 239 (by decide +kernel)
theorem m_4_0 : Cond.instanceMethod yJ5_isLatin1_aae02 ∈ TB := mem_t4 0 (by decide +kernel)
theorem m_4_3 : Cond.code yJ5_isLatin1_aae02 cJ5_isLatin1_aae02 1 (some .boolean) ∈ TB := mem_t4 3 (by decide +kernel)
theorem m_4_69 : Cond.methodLink RJ4 53 yJ5_append_c97b9 ∈ TB := mem_t4 69 (by decide +kernel)
theorem m_4_70 : Cond.instanceMethod yJ5_append_c97b9 ∈ TB := mem_t4 70 (by decide +kernel)
theorem m_4_71 : Cond.code yJ5_append_c97b9 cJ5_append_c97b9 4 (some (.object "java/lang/AbstractStringBuilder")) ∈ TB := mem_t4 71 (by decide +kernel)
theorem m_4_72 : Cond.methodLink RJ5 245 yJ6_stringSize_0f7a4 ∈ TB := mem_t4 72 (by decide +kernel)
theorem m_4_73 : Cond.static yJ6_stringSize_0f7a4 ∈ TB := mem_t4 73 (by decide +kernel)
theorem m_4_74 : Cond.code yJ6_stringSize_0f7a4 cJ6_stringSize_0f7a4 4 (some .int) ∈ TB := mem_t4 74 (by decide +kernel)
theorem m_4_75 : Cond.methodLink RJ5 248 yJ6_getChars_ba4f3 ∈ TB := mem_t4 75 (by decide +kernel)
theorem m_4_76 : Cond.static yJ6_getChars_ba4f3 ∈ TB := mem_t4 76 (by decide +kernel)
theorem m_4_77 : Cond.code yJ6_getChars_ba4f3 cJ6_getChars_ba4f3 7 (some .int) ∈ TB := mem_t4 77 (by decide +kernel)
theorem m_4_109 : Cond.instanceMethod yJ5_length_8abf5 ∈ TB := mem_t4 109 (by decide +kernel)
theorem m_4_110 : Cond.sameMethod RJ5 RJ5 "length" "()I" ∈ TB := mem_t4 110 (by decide +kernel)
theorem m_4_114 : Cond.methodLink RJ4 343 yJ5_length_8abf5 ∈ TB := mem_t4 114 (by decide +kernel)
theorem m_4_115 : Cond.code yJ5_length_8abf5 cJ5_length_8abf5 1 (some .int) ∈ TB := mem_t4 115 (by decide +kernel)
theorem m_4_120 : Cond.methodLink RJ7 339 yJ7_copyOfRangeByte_39247 ∈ TB := mem_t4 120 (by decide +kernel)
theorem m_4_121 : Cond.static yJ7_copyOfRangeByte_39247 ∈ TB := mem_t4 121 (by decide +kernel)
theorem m_4_122 : Cond.code yJ7_copyOfRangeByte_39247 cJ7_copyOfRangeByte_39247 5 (some (.array .byte)) ∈ TB := mem_t4 122 (by decide +kernel)
theorem m_4_123 : Cond.methodLink RJ7 343 yJ7_checkLength_df160 ∈ TB := mem_t4 123 (by decide +kernel)
theorem m_4_124 : Cond.static yJ7_checkLength_df160 ∈ TB := mem_t4 124 (by decide +kernel)
theorem m_4_125 : Cond.code yJ7_checkLength_df160 cJ7_checkLength_df160 2 none ∈ TB := mem_t4 125 (by decide +kernel)
theorem m_7_12 : Cond.methodLink RJ4 50 yJ5_append_3fe6f ∈ TB := mem_t7 12 (by decide +kernel)
theorem m_7_13 : Cond.instanceMethod yJ5_append_3fe6f ∈ TB := mem_t7 13 (by decide +kernel)
theorem m_7_14 : Cond.code yJ5_append_3fe6f cJ5_append_3fe6f 2 (some (.object "java/lang/AbstractStringBuilder")) ∈ TB := mem_t7 14 (by decide +kernel)
theorem m_7_15 : Cond.methodLink RJ5 191 yJ1_canEncode_fc78d ∈ TB := mem_t7 15 (by decide +kernel)
theorem m_7_16 : Cond.static yJ1_canEncode_fc78d ∈ TB := mem_t7 16 (by decide +kernel)
theorem m_7_17 : Cond.code yJ1_canEncode_fc78d cJ1_canEncode_fc78d 1 (some .boolean) ∈ TB := mem_t7 17 (by decide +kernel)
theorem m_7_172 : Cond.sameMethod RJ5 RJ5 "append" "(I)Ljava/lang/AbstractStringBuilder;" ∈ TB := mem_t7 172 (by decide +kernel)
theorem m_7_173 : Cond.sameMethod RJ5 RJ5 "append" "(C)Ljava/lang/AbstractStringBuilder;" ∈ TB := mem_t7 173 (by decide +kernel)
theorem mv_J5_isLatin1_aae02 : MV yJ5_isLatin1_aae02 cJ5_isLatin1_aae02 1 (some .boolean) 0 := ⟨m_4_3, by decide +kernel, m_1_5, ⟨by decide +kernel, by decide +kernel, by decide +kernel⟩, by decide⟩
theorem mv_J1_canEncode_fc78d : MV yJ1_canEncode_fc78d cJ1_canEncode_fc78d 1 (some .boolean) 1 := ⟨m_7_17, by decide +kernel, m_1_14, ⟨by decide +kernel, by decide +kernel, by decide +kernel⟩, by decide⟩
theorem mv_J5_append_3fe6f : MV yJ5_append_3fe6f cJ5_append_3fe6f 2 (some (.object "java/lang/AbstractStringBuilder")) 1 := ⟨m_7_14, by decide +kernel, m_1_5, ⟨by decide +kernel, by decide +kernel, by decide +kernel⟩, by decide⟩
theorem mv_J6_stringSize_0f7a4 : MV yJ6_stringSize_0f7a4 cJ6_stringSize_0f7a4 4 (some .int) 1 := ⟨m_4_74, by decide +kernel, m_1_16, ⟨by decide +kernel, by decide +kernel, by decide +kernel⟩, by decide⟩
theorem mv_J6_getChars_ba4f3 : MV yJ6_getChars_ba4f3 cJ6_getChars_ba4f3 7 (some .int) 3 := ⟨m_4_77, by decide +kernel, m_1_16, ⟨by decide +kernel, by decide +kernel, by decide +kernel⟩, by decide⟩
theorem mv_J5_append_c97b9 : MV yJ5_append_c97b9 cJ5_append_c97b9 4 (some (.object "java/lang/AbstractStringBuilder")) 1 := ⟨m_4_71, by decide +kernel, m_1_5, ⟨by decide +kernel, by decide +kernel, by decide +kernel⟩, by decide⟩
theorem mv_J5_length_8abf5 : MV yJ5_length_8abf5 cJ5_length_8abf5 1 (some .int) 0 := ⟨m_4_115, by decide +kernel, m_1_5, ⟨by decide +kernel, by decide +kernel, by decide +kernel⟩, by decide⟩
theorem mv_J7_checkLength_df160 : MV yJ7_checkLength_df160 cJ7_checkLength_df160 2 none 2 := ⟨m_4_125, by decide +kernel, m_1_11, ⟨by decide +kernel, by decide +kernel, by decide +kernel⟩, by decide⟩
theorem mv_J7_copyOfRangeByte_39247 : MV yJ7_copyOfRangeByte_39247 cJ7_copyOfRangeByte_39247 5 (some (.array .byte)) 3 := ⟨m_4_122, by decide +kernel, m_1_11, ⟨by decide +kernel, by decide +kernel, by decide +kernel⟩, by decide⟩
theorem sl_RJ4_J5_isLatin1_aae02 : Slc RJ4 yJ5_isLatin1_aae02 yJ5_isLatin1_aae02 0 := ⟨Or.inl m_4_2, ⟨_, _, _, m_4_2, rfl⟩, ⟨_, _, _, m_4_2, rfl⟩, Or.inr ⟨m_4_0, _, _, _, m_4_3⟩, m_4_0, ⟨by decide +kernel, by decide +kernel⟩, by decide +kernel⟩
theorem su_RJ4_J5_append_3fe6f : Sup RJ4 yJ5_append_3fe6f 1 := ⟨m_7_173, m_3_199, m_7_13, by decide +kernel, by decide +kernel⟩
theorem su_RJ4_J5_append_c97b9 : Sup RJ4 yJ5_append_c97b9 1 := ⟨m_7_172, m_3_199, m_4_70, by decide +kernel, by decide +kernel⟩
theorem su_RJ4_J5_length_8abf5 : Sup RJ4 yJ5_length_8abf5 0 := ⟨m_4_110, m_3_199, m_4_109, by decide +kernel, by decide +kernel⟩
/-! APPEND of letters and numbers; toString -/
theorem ch_chars {G : Gt} {l : Launch} {v cap ei n sz : Nat} {f : Nat → Int32} (hG : AllA G) (hgv : gz G ≤ v) (hf : bfit f) (he : (dec n).length ≤ ei) (hec : ei ≤ cap) (hc : cap < 2 ^ 30) (h : n < 10000) : CtH G l yJ6_getChars_ba4f3 cJ6_getChars_ba4f3 7 (some .int) 1 0 0 [.int (nI n), .int (nI ei), .ref v] sz (fun q => q = v) (fun U => va_at (gDD G) vwCl (v, .inl (gty G 7, cap, .inl f)) U.heap ∧ EnvD G U) (fun ov H => ov = some (.int (nI (ei - (dec n).length))) ∧ ∃ f1, va_at (gDD G) vwCl (v, .inl (gty G 7, cap, .inl f1)) H ∧ (∀ i, i < ei - (dec n).length → f1 i = f i) ∧ (∀ i, i < (dec n).length → f1 (ei - (dec n).length + i) = tB (dec n) i) ∧ bfit f1) := by
  have hd : ∀ k, (dec n).length = k → k ≤ ei := fun k hk => by omega
  by_cases c1 : n < 10
  · exact ch_chars1 hG hgv hf (hd 1 (by unfold dec; rw [if_pos c1]; rfl)) hec hc c1
  by_cases c2 : n < 100
  · exact ch_chars2 hG hgv hf (hd 2 (by unfold dec; rw [if_neg c1, if_pos c2]; rfl)) hec hc (by omega)
  by_cases c3 : n < 1000
  · exact ch_chars3 hG hgv hf (hd 3 (by unfold dec; rw [if_neg c1, if_neg c2, if_pos c3]; rfl)) hec hc (by omega)
  · exact ch_chars4 hG hgv hf (hd 4 (by unfold dec; rw [if_neg c1, if_neg c2, if_neg c3]; rfl)) hec hc (by omega)
set_option maxHeartbeats 2000000 in
theorem cp_SBlatin {G : Gt} {l : Launch} {b v n : Nat} : CtP G l yJ5_isLatin1_aae02 cJ5_isLatin1_aae02 1 (some .boolean) 1 [.ref b] (fun U => va_at (gDD G) vwCl (b, .inr (13, [.ref v, .int 0, .int 0, .int (nI n)])) U.heap) (some (.int 1)) := by
  refine met_P (by decide +kernel) (Nat.le_of_ble_eq_true rfl) ⟨.boolean, rfl, by decide⟩ ?_
  intro p e s m args below meth c Q ls X hP hr hl
  have hx := X.1.1
  have hb := X.1.2.1
  have hA : ∀ q, q < s.heap.size → (fun _ : Nat => False) q → gA G q := fun q _ h9 => h9.elim
  have hS : va_S (fun _ => False) s.heap s.heap [] := va_S.rf
  have hl : lv_has ls 1 [(0, .ref b)] := hl
  have f0 := hP
  refine p_gets X X.tE.2.2.2.2.2.2.1 hS hA m_3_179 dJ5_isLatin1_aae02_0 ?_
  refine lv_if_eq (tgt := 17) hx hb dJ5_isLatin1_aae02_3 (by decide) (fun hc => absurd hc (by decide)) (fun _ => ?_)
  refine lv_aload_n hx hb dJ5_isLatin1_aae02_6 rfl (lv_at hl 0 rfl) ?_
  refine p_get (T := TJ4) (N := 4) (k := 1) X f0 inTB_SB rfl (by decide) m_3_188 rfl dJ5_isLatin1_aae02_7 ?_
  refine lv_if_ne (tgt := 17) hx hb dJ5_isLatin1_aae02_10 (by decide) (fun hc => absurd rfl hc) (fun _ => ?_)
  refine lv_iconst (v := 1) hx hb dJ5_isLatin1_aae02_13 (by decide) ?_
  refine lv_goto (tgt := 18) hx hb dJ5_isLatin1_aae02_14 (by decide) ?_
  exact hr _ _ dJ5_isLatin1_aae02_18
set_option maxHeartbeats 2000000 in
theorem cp_canEncode {G : Gt} {l : Launch} {x : Nat} (hx8 : x < 128) {Pf : State → Prop} : CtP G l yJ1_canEncode_fc78d cJ1_canEncode_fc78d 1 (some .boolean) 1 [.int (nI x)] Pf (some (.int 1)) := by
  refine met_P (by decide +kernel) (Nat.le_of_ble_eq_true rfl) ⟨.boolean, rfl, by decide⟩ ?_
  intro p e s m args below meth c Q ls X hP hr hl
  have hx := X.1.1
  have hb := X.1.2.1
  have hA : ∀ q, q < s.heap.size → (fun _ : Nat => False) q → gA G q := fun q _ h9 => h9.elim
  have hS : va_S (fun _ => False) s.heap s.heap [] := va_S.rf
  have hl : lv_has ls 1 [(0, .int (nI x))] := hl
  refine lv_iload_n hx hb dJ1_canEncode_fc78d_0 rfl (lv_at hl 0 rfl) ?_
  refine lv_sipush (v := 255) hx hb dJ1_canEncode_fc78d_1 (by decide) ?_
  refine lv_icmp_gt (tgt := 11) hx hb dJ1_canEncode_fc78d_4 (by decide) (fun hc => absurd hc (nI_ngt (b := 255) (by omega) (by omega))) (fun _ => ?_)
  refine lv_iconst (v := 1) hx hb dJ1_canEncode_fc78d_7 (by decide) ?_
  refine lv_goto (tgt := 12) hx hb dJ1_canEncode_fc78d_8 (by decide) ?_
  exact hr _ _ dJ1_canEncode_fc78d_12
theorem agr.put {f : Nat → Int32} {t : List Nat} {x : Nat} (h : agr f t) : agr (upd f t.length (nI x)) (t ++ [x]) := fun i hi => by
  rw [List.length_append] at hi
  have hi2 : i < t.length + 1 := hi
  unfold upd tB
  by_cases c : i = t.length
  · rw [if_pos c, c, List.getD_eq_getElem?_getD, List.getElem?_append_right (Nat.le_refl _), Nat.sub_self]
    rfl
  · rw [if_neg c, h i (by omega), List.getD_eq_getElem?_getD, List.getElem?_append_left (by omega)]
    unfold tB
    rw [List.getD_eq_getElem?_getD]
theorem agr.num {f g : Nat → Int32} {t u : List Nat} (h : agr f t) (h1 : ∀ i, i < t.length → g i = f i) (h2 : ∀ i, i < u.length → g (t.length + i) = tB u i) : agr g (t ++ u) := fun i hi => by
  rw [List.length_append] at hi
  by_cases c : i < t.length
  · rw [h1 i c, h i c]
    unfold tB
    rw [List.getD_eq_getElem?_getD, List.getD_eq_getElem?_getD, List.getElem?_append_left c]
  · obtain ⟨k, rfl⟩ : ∃ k, i = t.length + k := ⟨i - t.length, by omega⟩
    rw [h2 k (by omega)]
    unfold tB
    rw [List.getD_eq_getElem?_getD, List.getD_eq_getElem?_getD, List.getElem?_append_right (by omega), Nat.add_sub_cancel_left]
theorem x_i2b {x : Nat} (h : x < 128) : (nI x).toInt8.toInt32 = nI x := by
  have : ∀ n, n < 128 → (nI n).toInt8.toInt32 = nI n := by decide +kernel
  exact this x h
set_option maxHeartbeats 2000000 in
theorem ch_ASBappC {G : Gt} {l : Launch} {b v x sz : Nat} {t : List Nat} (hG : AllA G) (hgb : gz G ≤ b) (hgv : gz G ≤ v) (hx8 : x < 128) (h : t.length + 1 < 2 ^ 26) (hbv : b ≠ v) : CtH G l yJ5_append_3fe6f cJ5_append_3fe6f 2 (some (.object "java/lang/AbstractStringBuilder")) 5 1 (2 * (t.length + 1)) [.ref b, .int (nI x)] sz (fun q => q = b ∨ q = v) (fun U => SBs G b v t U.heap) (fun ov H => ov = some (.ref b) ∧ ∃ w, (w = v ∨ sz ≤ w) ∧ SBs G b w (t ++ [x]) H) := by
  refine met_H (by decide +kernel) (Nat.le_of_ble_eq_true rfl) .areturn (Or.inr (Or.inr ⟨_, .ref b, rfl, Or.inl ⟨_, rfl⟩, Or.inr ⟨_, rfl⟩, rfl, rfl⟩)) ?_
  intro p e s m args below meth c Q ls X hnm hsz hP hr hl
  have hx := X.1.1
  have hb := X.1.2.1
  have hgz : gz G ≤ sz := by rw [← hsz]; exact X.2.1.2.1
  have hA : ∀ q, q < s.heap.size → frA (fun q => q = b ∨ q = v) sz q → gA G q := fun q h8 h9 => hG q (by simp only [frA, false_or] at h9; omega)
  have hS : va_S (frA (fun q => q = b ∨ q = v) sz) s.heap s.heap [] := va_S.rf
  have hl : lv_has ls 2 [(0, .ref b), (1, .int (nI x))] := hl
  obtain ⟨f, cap, ⟨f0, f1⟩, hag, hf, hl1, hl2⟩ := hP
  refine lv_aload_n hx hb dJ5_append_3fe6f_0 rfl (lv_at hl 0 rfl) ?_
  refine lv_aload_n hx hb dJ5_append_3fe6f_1 rfl (lv_at hl 0 rfl) ?_
  refine p_get (T := TJ4) (N := 4) (k := 3) X f0 inTB_SB rfl (by decide) m_3_190 rfl dJ5_append_3fe6f_2 ?_
  refine lv_iconst (v := 1) hx hb dJ5_append_3fe6f_5 (by decide) ?_
  refine lv_iadd hx hb dJ5_append_3fe6f_6 ?_
  refine lv_to (y := nI (t.length + 1)) (nI_1 _) ?_
  refine callH_X (As := [.int (nI (t.length + 1))]) X hS hA (Mv.h _) (fun U hU hv => by rw [hU]; exact ⟨f0, f1⟩) (fun q h9 => by simp only [frA, false_or] at h9 ⊢; have := hS.1; omega) (p_recv X f0 (r := (RJ4, TJ4, 4)) rfl) m_3_212 sl_RJ4_J5_ensureCapacityInternal_d00df mv_J5_ensureCapacityInternal_d00df (by decide) (ch_ens (n := t.length) hG hgb hgv hf (by omega) (by omega)) (by decide) rfl (Nat.le_of_ble_eq_true rfl) hl.1 dJ5_append_3fe6f_7 (by show _ ≤ _; simp only [rmC]; omega) (by show _ ≤ _; simp only [rmC]; omega) fun vH1 H1 locs qH1 zH1 oH1 hS2 => ?_
  have lH1_f0_0 := f0.lt
  have lH1_f1_0 := f1.lt
  have lH1_0 := hS.1
  replace hS := hS2; clear hS2 oH1
  clear f0
  clear f1
  obtain ⟨rfl, w, cap1, f9, ⟨f0, f1⟩, hw, hk1, hk2, hk3, hk4⟩ := qH1
  have hbw : b ≠ w := by have := f0.lt; omega
  have hgw : gz G ≤ w := by omega
  refine lv_aload_n hx hb dJ5_append_3fe6f_10 rfl (lv_at hl 0 rfl) ?_
  refine callP_X (As := []) X hS hA (Mv.h _) (fun U hU hv => by rw [hU]; exact f0) (p_recv X f0 (r := (RJ4, TJ4, 4)) rfl) m_3_239 sl_RJ4_J5_isLatin1_aae02 mv_J5_isLatin1_aae02 (by decide) (cp_SBlatin (v := w) (n := t.length)) (by decide) rfl (Nat.le_of_ble_eq_true rfl) hl.1 dJ5_append_3fe6f_11 (by show _ ≤ _; simp only [rmC]; omega) (by show _ ≤ _; simp only [rmC]; omega) ?_
  refine lv_if_eq (tgt := 45) hx hb dJ5_append_3fe6f_14 (by decide) (fun hc => absurd hc (by decide)) (fun _ => ?_)
  refine lv_iload_n hx hb dJ5_append_3fe6f_17 rfl (lv_at hl 1 rfl) ?_
  refine callP_S (As := [.int (nI x)]) X hS hA (Mv.true) (fun U hU hv => trivial) m_7_15 m_7_16 mv_J1_canEncode_fc78d (cp_canEncode (Pf := fun _ => True) hx8) (by decide) rfl rfl (Nat.le_of_ble_eq_true rfl) hl.1 dJ5_append_3fe6f_18 (by show _ ≤ _; simp only [rmC]; omega) (by show _ ≤ _; simp only [rmC]; omega) ?_
  refine lv_if_eq (tgt := 45) hx hb dJ5_append_3fe6f_21 (by decide) (fun hc => absurd hc (by decide)) (fun _ => ?_)
  refine lv_aload_n hx hb dJ5_append_3fe6f_24 rfl (lv_at hl 0 rfl) ?_
  refine p_get (T := TJ4) (N := 4) (k := 0) X f0 inTB_SB rfl (by decide) m_3_187 rfl dJ5_append_3fe6f_25 ?_
  refine lv_aload_n hx hb dJ5_append_3fe6f_28 rfl (lv_at hl 0 rfl) ?_
  refine lv_dup hx hb dJ5_append_3fe6f_29 rfl ?_
  refine p_get (T := TJ4) (N := 4) (k := 3) X f0 inTB_SB rfl (by decide) m_3_190 rfl dJ5_append_3fe6f_30 ?_
  refine lv_dup_x1 hx hb dJ5_append_3fe6f_33 rfl rfl ?_
  refine lv_iconst (v := 1) hx hb dJ5_append_3fe6f_34 (by decide) ?_
  refine lv_iadd hx hb dJ5_append_3fe6f_35 ?_
  refine lv_to (y := nI (t.length + 1)) (nI_1 _) ?_
  refine p_put (T := TJ4) (N := 4) (k := 3) (ty := .int) X f0 inTB_SB tyJ4 tyJ4_ok nmJ4 rfl (by decide) m_3_190 (fun hq => by cases hq) (by decide +kernel) rfl rfl (Nat.le_of_ble_eq_true rfl) dJ5_append_3fe6f_36 fun H2 kH2 nH2 zH2 oH2 => ?_
  replace f1 := f1.kept (oH2 _ (by omega))
  replace hS := hS.put (k := kH2) zH2 oH2 (Or.inl (Or.inl rfl))
  replace f0 : va_at (gDD G) vwCl (b, .inr (13, [.ref w, .int 0, .int 0, .int (nI (t.length + 1))])) H2 := nH2
  clear zH2 oH2
  refine lv_iload_n hx hb dJ5_append_3fe6f_39 rfl (lv_at hl 1 rfl) ?_
  refine lv_i2b (v := nI x) hx hb dJ5_append_3fe6f_40 (x_i2b hx8) ?_
  refine p_bast (t := 7) X f1 rfl (nI_in (by omega) (by omega)) dJ5_append_3fe6f_41 fun H3 kH3 nH3 zH3 oH3 => ?_
  replace f0 := f0.kept (oH3 _ (by omega))
  replace hS := hS.put (k := kH3) zH3 oH3 (by rcases hw with h9 | h9; exact Or.inl (Or.inr h9); exact Or.inr (by omega))
  replace f1 : va_at (gDD G) vwCl (w, .inl (gty G 7, cap1, .inl (upd f9 (t.length) (nI (x))))) H3 := by rw [nI_clamp (by omega), nar_dig hx8] at nH3; exact nH3
  clear zH3 oH3 nH3
  refine lv_goto (tgt := 75) hx hb dJ5_append_3fe6f_42 (by decide) ?_
  refine lv_aload_n hx hb dJ5_append_3fe6f_75 rfl (lv_at hl 0 rfl) ?_
  exact hr _ _ _ _ _ _ dJ5_append_3fe6f_76 ⟨rfl, w, by omega, _, cap1, ⟨by rw [List.length_append]; exact f0, f1⟩, agr.put (fun i hi => (hk3 i (by omega)).trans (hag i hi)), hk4.put hx8, by rw [List.length_append]; show t.length + 1 ≤ _; omega, by rw [List.length_append]; show _ ≤ 2 * (t.length + 1) + 64; omega⟩ hS (by omega) (by omega)
set_option maxHeartbeats 2000000 in
theorem ch_appC {G : Gt} {l : Launch} {b v x sz : Nat} {t : List Nat} (hG : AllA G) (hgb : gz G ≤ b) (hgv : gz G ≤ v) (hx8 : x < 128) (h : t.length + 1 < 2 ^ 26) (hbv : b ≠ v) : CtH G l yJ4_append_cf468 cJ4_append_cf468 2 (some (.object "java/lang/StringBuilder")) 6 1 (2 * (t.length + 1)) [.ref b, .int (nI x)] sz (fun q => q = b ∨ q = v) (fun U => SBs G b v t U.heap) (fun ov H => ov = some (.ref b) ∧ ∃ w, (w = v ∨ sz ≤ w) ∧ SBs G b w (t ++ [x]) H) := by
  refine met_H (by decide +kernel) (Nat.le_of_ble_eq_true rfl) .areturn (Or.inr (Or.inr ⟨_, .ref b, rfl, Or.inl ⟨_, rfl⟩, Or.inr ⟨_, rfl⟩, rfl, rfl⟩)) ?_
  intro p e s m args below meth c Q ls X hnm hsz hP hr hl
  have hx := X.1.1
  have hb := X.1.2.1
  have hgz : gz G ≤ sz := by rw [← hsz]; exact X.2.1.2.1
  have hA : ∀ q, q < s.heap.size → frA (fun q => q = b ∨ q = v) sz q → gA G q := fun q h8 h9 => hG q (by simp only [frA, false_or] at h9; omega)
  have hS : va_S (frA (fun q => q = b ∨ q = v) sz) s.heap s.heap [] := va_S.rf
  have hl : lv_has ls 2 [(0, .ref b), (1, .int (nI x))] := hl
  have f0 := hP
  refine lv_aload_n hx hb dJ4_append_cf468_0 rfl (lv_at hl 0 rfl) ?_
  refine lv_iload_n hx hb dJ4_append_cf468_1 rfl (lv_at hl 1 rfl) ?_
  refine callH_U (As := [.int (nI x)]) X hS hA (Mv.h _) (fun U hU hv => by rw [hU]; exact f0) (fun q h9 => by simp only [frA, false_or] at h9 ⊢; have := hS.1; omega) f0.obj rfl m_7_12 su_RJ4_J5_append_3fe6f mv_J5_append_3fe6f (by decide) (ch_ASBappC (t := t) (v := v) hG hgb hgv hx8 h hbv) (by decide) rfl rfl (Nat.le_of_ble_eq_true rfl) hl.1 dJ4_append_cf468_2 (by show _ ≤ _; simp only [rmC]; omega) (by show _ ≤ _; simp only [rmC]; omega) fun vH1 H1 locs qH1 zH1 oH1 hS2 => ?_
  have lH1_f0_0 := f0.lt.1
  have lH1_f0_1 := f0.lt.2
  have lH1_0 := hS.1
  replace hS := hS2; clear hS2 oH1
  clear f0
  obtain ⟨rfl, w, hw, f0⟩ := qH1
  refine lv_pop hx hb dJ4_append_cf468_5 rfl ?_
  refine lv_aload_n hx hb dJ4_append_cf468_6 rfl (lv_at hl 0 rfl) ?_
  exact hr _ _ _ _ _ _ dJ4_append_cf468_7 ⟨rfl, w, by omega, f0⟩ hS (by omega) (by omega)
set_option maxHeartbeats 2000000 in
theorem ch_ASBappI {G : Gt} {l : Launch} {b v n sz : Nat} {t : List Nat} (hG : AllA G) (hgb : gz G ≤ b) (hgv : gz G ≤ v) (hn : n < 10000) (h : t.length + 4 < 2 ^ 26) (hbv : b ≠ v) : CtH G l yJ5_append_c97b9 cJ5_append_c97b9 4 (some (.object "java/lang/AbstractStringBuilder")) 5 1 (2 * (t.length + 4)) [.ref b, .int (nI n)] sz (fun q => q = b ∨ q = v) (fun U => SBs G b v t U.heap ∧ EnvD G U) (fun ov H => ov = some (.ref b) ∧ ∃ w, (w = v ∨ sz ≤ w) ∧ SBs G b w (t ++ dec n) H) := by
  refine met_H (by decide +kernel) (Nat.le_of_ble_eq_true rfl) .areturn (Or.inr (Or.inr ⟨_, .ref b, rfl, Or.inl ⟨_, rfl⟩, Or.inr ⟨_, rfl⟩, rfl, rfl⟩)) ?_
  intro p e s m args below meth c Q ls X hnm hsz hP hr hl
  have hx := X.1.1
  have hb := X.1.2.1
  have hgz : gz G ≤ sz := by rw [← hsz]; exact X.2.1.2.1
  have hA : ∀ q, q < s.heap.size → frA (fun q => q = b ∨ q = v) sz q → gA G q := fun q h8 h9 => hG q (by simp only [frA, false_or] at h9; omega)
  have hS : va_S (frA (fun q => q = b ∨ q = v) sz) s.heap s.heap [] := va_S.rf
  have hl : lv_has ls 4 [(0, .ref b), (1, .int (nI n))] := hl
  obtain ⟨⟨f, cap, ⟨f0, f1⟩, hag, hf, hl1, hl2⟩, hD⟩ := hP
  obtain ⟨hdl1, hdl2⟩ := dec_len n
  refine lv_aload_n hx hb dJ5_append_c97b9_0 rfl (lv_at hl 0 rfl) ?_
  refine p_get (T := TJ4) (N := 4) (k := 3) X f0 inTB_SB rfl (by decide) m_3_190 rfl dJ5_append_c97b9_1 ?_
  refine lv_istore_n (lv' := [(2, .int (nI (t.length))), (0, .ref b), (1, .int (nI n))]) hx hb dJ5_append_c97b9_4 rfl hl (by decide) rfl ?_
  clear hl; intro ls hl
  refine lv_iload_n hx hb dJ5_append_c97b9_5 rfl (lv_at hl 0 rfl) ?_
  refine lv_iload_n hx hb dJ5_append_c97b9_6 rfl (lv_at hl 2 rfl) ?_
  refine callP_S (As := [.int (nI n)]) X hS hA (Mv.true) (fun U hU hv => trivial) m_4_72 m_4_73 mv_J6_stringSize_0f7a4 (cp_size (Pf := fun _ => True) hn) (by decide) rfl rfl (Nat.le_of_ble_eq_true rfl) hl.1 dJ5_append_c97b9_7 (by show _ ≤ _; simp only [rmC]; omega) (by show _ ≤ _; simp only [rmC]; omega) ?_
  refine lv_iadd hx hb dJ5_append_c97b9_10 ?_
  refine lv_to (y := nI (t.length + (dec n).length)) (nI_add _ _) ?_
  refine lv_istore_n (lv' := [(3, .int (nI (t.length + (dec n).length))), (2, .int (nI (t.length))), (0, .ref b), (1, .int (nI n))]) hx hb dJ5_append_c97b9_11 rfl hl (by decide) rfl ?_
  clear hl; intro ls hl
  refine lv_aload_n hx hb dJ5_append_c97b9_12 rfl (lv_at hl 2 rfl) ?_
  refine lv_iload_n hx hb dJ5_append_c97b9_13 rfl (lv_at hl 0 rfl) ?_
  refine callH_X (As := [.int (nI (t.length + (dec n).length))]) X hS hA (Mv.h _) (fun U hU hv => by rw [hU]; exact ⟨f0, f1⟩) (fun q h9 => by simp only [frA, false_or] at h9 ⊢; have := hS.1; omega) (p_recv X f0 (r := (RJ4, TJ4, 4)) rfl) m_3_212 sl_RJ4_J5_ensureCapacityInternal_d00df mv_J5_ensureCapacityInternal_d00df (by decide) (ch_ens (n := t.length) hG hgb hgv hf (by omega) (by omega)) (by decide) rfl (Nat.le_of_ble_eq_true rfl) hl.1 dJ5_append_c97b9_14 (by show _ ≤ _; simp only [rmC]; omega) (by show _ ≤ _; simp only [rmC]; omega) fun vH1 H1 locs qH1 zH1 oH1 hS2 => ?_
  have lH1_f0_0 := f0.lt
  have lH1_f1_0 := f1.lt
  have lH1_0 := hS.1
  replace hS := hS2; clear hS2 oH1
  clear f0
  clear f1
  obtain ⟨rfl, w, cap1, f9, ⟨f0, f1⟩, hw, hk1, hk2, hk3, hk4⟩ := qH1
  have hbw : b ≠ w := by have := f0.lt; omega
  have hgw : gz G ≤ w := by omega
  refine lv_aload_n hx hb dJ5_append_c97b9_17 rfl (lv_at hl 2 rfl) ?_
  refine callP_X (As := []) X hS hA (Mv.h _) (fun U hU hv => by rw [hU]; exact f0) (p_recv X f0 (r := (RJ4, TJ4, 4)) rfl) m_3_239 sl_RJ4_J5_isLatin1_aae02 mv_J5_isLatin1_aae02 (by decide) (cp_SBlatin (v := w) (n := t.length)) (by decide) rfl (Nat.le_of_ble_eq_true rfl) hl.1 dJ5_append_c97b9_18 (by show _ ≤ _; simp only [rmC]; omega) (by show _ ≤ _; simp only [rmC]; omega) ?_
  refine lv_if_eq (tgt := 37) hx hb dJ5_append_c97b9_21 (by decide) (fun hc => absurd hc (by decide)) (fun _ => ?_)
  refine lv_iload_n hx hb dJ5_append_c97b9_24 rfl (lv_at hl 3 rfl) ?_
  refine lv_iload_n hx hb dJ5_append_c97b9_25 rfl (lv_at hl 0 rfl) ?_
  refine lv_aload_n hx hb dJ5_append_c97b9_26 rfl (lv_at hl 2 rfl) ?_
  refine p_get (T := TJ4) (N := 4) (k := 0) X f0 inTB_SB rfl (by decide) m_3_187 rfl dJ5_append_c97b9_27 ?_
  refine callH_S (As := [.int (nI n), .int (nI (t.length + (dec n).length)), .ref w]) X hS hA (Mv.and (Mv.h fun K => va_at (gDD G) vwCl (w, .inl (gty G 7, cap1, .inl f9)) K) EnvD.mv) (fun U hU hv => ⟨by rw [hU]; exact f1, hD.to hS hA hU hv⟩) (fun q h9 => by simp only [frA, false_or] at h9 ⊢; have := hS.1; omega) m_4_75 m_4_76 mv_J6_getChars_ba4f3 (ch_chars (f := f9) (cap := cap1) (ei := t.length + (dec n).length) hG hgw hk4 (by omega) (by omega) (by omega) hn) (by decide) rfl rfl (Nat.le_of_ble_eq_true rfl) hl.1 dJ5_append_c97b9_30 (by show _ ≤ _; simp only [rmC]; omega) (by show _ ≤ _; simp only [rmC]; omega) fun vH2 H2 locs qH2 zH2 oH2 hS2 => ?_
  have lH2_f0_0 := f0.lt
  have lH2_f1_0 := f1.lt
  have lH2_0 := hS.1
  replace f0 := f0.kept (oH2 _ lH2_f0_0 (fun h9 => by first | exact h9.elim | omega | (dsimp only at h9; omega)))
  replace hS := hS2; clear hS2 oH2
  clear f1
  obtain ⟨rfl, f10, f1, hj1, hj2, hj3⟩ := qH2
  refine lv_pop hx hb dJ5_append_c97b9_33 rfl ?_
  refine lv_goto (tgt := 48) hx hb dJ5_append_c97b9_34 (by decide) ?_
  refine lv_aload_n hx hb dJ5_append_c97b9_48 rfl (lv_at hl 2 rfl) ?_
  refine lv_iload_n hx hb dJ5_append_c97b9_49 rfl (lv_at hl 0 rfl) ?_
  refine p_put (T := TJ4) (N := 4) (k := 3) (ty := .int) X f0 inTB_SB tyJ4 tyJ4_ok nmJ4 rfl (by decide) m_3_190 (fun hq => by cases hq) (by decide +kernel) rfl rfl (Nat.le_of_ble_eq_true rfl) dJ5_append_c97b9_50 fun H3 kH3 nH3 zH3 oH3 => ?_
  replace f1 := f1.kept (oH3 _ (by omega))
  replace hS := hS.put (k := kH3) zH3 oH3 (Or.inl (Or.inl rfl))
  replace f0 : va_at (gDD G) vwCl (b, .inr (13, [.ref w, .int 0, .int 0, .int (nI (t.length + (dec n).length))])) H3 := nH3
  clear zH3 oH3
  refine lv_aload_n hx hb dJ5_append_c97b9_53 rfl (lv_at hl 2 rfl) ?_
  rw [Nat.add_sub_cancel] at hj1 hj2
  exact hr _ _ _ _ _ _ dJ5_append_c97b9_54 ⟨rfl, w, by omega, f10, cap1, ⟨by rw [List.length_append]; exact f0, f1⟩, agr.num (fun i hi => (hk3 i (by omega)).trans (hag i hi)) hj1 hj2, hj3, by rw [List.length_append]; omega, by rw [List.length_append]; omega⟩ hS (by omega) (by omega)
set_option maxHeartbeats 2000000 in
theorem ch_appI {G : Gt} {l : Launch} {b v n sz : Nat} {t : List Nat} (hG : AllA G) (hgb : gz G ≤ b) (hgv : gz G ≤ v) (hn : n < 10000) (h : t.length + 4 < 2 ^ 26) (hbv : b ≠ v) : CtH G l yJ4_append_bf812 cJ4_append_bf812 2 (some (.object "java/lang/StringBuilder")) 6 1 (2 * (t.length + 4)) [.ref b, .int (nI n)] sz (fun q => q = b ∨ q = v) (fun U => SBs G b v t U.heap ∧ EnvD G U) (fun ov H => ov = some (.ref b) ∧ ∃ w, (w = v ∨ sz ≤ w) ∧ SBs G b w (t ++ dec n) H) := by
  refine met_H (by decide +kernel) (Nat.le_of_ble_eq_true rfl) .areturn (Or.inr (Or.inr ⟨_, .ref b, rfl, Or.inl ⟨_, rfl⟩, Or.inr ⟨_, rfl⟩, rfl, rfl⟩)) ?_
  intro p e s m args below meth c Q ls X hnm hsz hP hr hl
  have hx := X.1.1
  have hb := X.1.2.1
  have hgz : gz G ≤ sz := by rw [← hsz]; exact X.2.1.2.1
  have hA : ∀ q, q < s.heap.size → frA (fun q => q = b ∨ q = v) sz q → gA G q := fun q h8 h9 => hG q (by simp only [frA, false_or] at h9; omega)
  have hS : va_S (frA (fun q => q = b ∨ q = v) sz) s.heap s.heap [] := va_S.rf
  have hl : lv_has ls 2 [(0, .ref b), (1, .int (nI n))] := hl
  obtain ⟨f0, hD⟩ := hP
  refine lv_aload_n hx hb dJ4_append_bf812_0 rfl (lv_at hl 0 rfl) ?_
  refine lv_iload_n hx hb dJ4_append_bf812_1 rfl (lv_at hl 1 rfl) ?_
  refine callH_U (As := [.int (nI n)]) X hS hA (Mv.and (Mv.h fun K => SBs G b v t K) EnvD.mv) (fun U hU hv => ⟨by rw [hU]; exact f0, hD.to hS hA hU hv⟩) (fun q h9 => by simp only [frA, false_or] at h9 ⊢; have := hS.1; omega) f0.obj rfl m_4_69 su_RJ4_J5_append_c97b9 mv_J5_append_c97b9 (by decide) (ch_ASBappI (t := t) (v := v) hG hgb hgv hn h hbv) (by decide) rfl rfl (Nat.le_of_ble_eq_true rfl) hl.1 dJ4_append_bf812_2 (by show _ ≤ _; simp only [rmC]; omega) (by show _ ≤ _; simp only [rmC]; omega) fun vH1 H1 locs qH1 zH1 oH1 hS2 => ?_
  have lH1_f0_0 := f0.lt.1
  have lH1_f0_1 := f0.lt.2
  have lH1_0 := hS.1
  replace hS := hS2; clear hS2 oH1
  clear f0
  obtain ⟨rfl, w, hw, f0⟩ := qH1
  refine lv_pop hx hb dJ4_append_bf812_5 rfl ?_
  refine lv_aload_n hx hb dJ4_append_bf812_6 rfl (lv_at hl 0 rfl) ?_
  exact hr _ _ _ _ _ _ dJ4_append_bf812_7 ⟨rfl, w, by omega, f0⟩ hS (by omega) (by omega)
set_option maxHeartbeats 2000000 in
theorem cp_ASBlen {G : Gt} {l : Launch} {b v n : Nat} : CtP G l yJ5_length_8abf5 cJ5_length_8abf5 1 (some .int) 1 [.ref b] (fun U => va_at (gDD G) vwCl (b, .inr (13, [.ref v, .int 0, .int 0, .int (nI n)])) U.heap) (some (.int (nI n))) := by
  refine met_P (by decide +kernel) (Nat.le_of_ble_eq_true rfl) ⟨.int, rfl, rfl⟩ ?_
  intro p e s m args below meth c Q ls X hP hr hl
  have hx := X.1.1
  have hb := X.1.2.1
  have hA : ∀ q, q < s.heap.size → (fun _ : Nat => False) q → gA G q := fun q _ h9 => h9.elim
  have hS : va_S (fun _ => False) s.heap s.heap [] := va_S.rf
  have hl : lv_has ls 1 [(0, .ref b)] := hl
  have f0 := hP
  refine lv_aload_n hx hb dJ5_length_8abf5_0 rfl (lv_at hl 0 rfl) ?_
  refine p_get (T := TJ4) (N := 4) (k := 3) X f0 inTB_SB rfl (by decide) m_3_190 rfl dJ5_length_8abf5_1 ?_
  exact hr _ _ dJ5_length_8abf5_4
set_option maxHeartbeats 2000000 in
theorem cp_SBlen {G : Gt} {l : Launch} {b v n : Nat} : CtP G l yJ4_length_8abf5 cJ4_length_8abf5 1 (some .int) 2 [.ref b] (fun U => va_at (gDD G) vwCl (b, .inr (13, [.ref v, .int 0, .int 0, .int (nI n)])) U.heap) (some (.int (nI n))) := by
  refine met_P (by decide +kernel) (Nat.le_of_ble_eq_true rfl) ⟨.int, rfl, rfl⟩ ?_
  intro p e s m args below meth c Q ls X hP hr hl
  have hx := X.1.1
  have hb := X.1.2.1
  have hA : ∀ q, q < s.heap.size → (fun _ : Nat => False) q → gA G q := fun q _ h9 => h9.elim
  have hS : va_S (fun _ => False) s.heap s.heap [] := va_S.rf
  have hl : lv_has ls 1 [(0, .ref b)] := hl
  have f0 := hP
  refine lv_aload_n hx hb dJ4_length_8abf5_0 rfl (lv_at hl 0 rfl) ?_
  refine callP_U (As := []) X hS hA (Mv.h _) (fun U hU hv => by rw [hU]; exact f0) f0 rfl m_4_114 su_RJ4_J5_length_8abf5 mv_J5_length_8abf5 (by decide) (cp_ASBlen (v := v) (n := n)) (by decide) rfl rfl (Nat.le_of_ble_eq_true rfl) hl.1 dJ4_length_8abf5_1 (Nat.le_refl _) (Nat.le_refl _) ?_
  exact hr _ _ dJ4_length_8abf5_4
set_option maxHeartbeats 2000000 in
theorem cp_getValue {G : Gt} {l : Launch} {b v n : Nat} : CtP G l yJ5_getValue_6d5f1 cJ5_getValue_6d5f1 1 (some (.array .byte)) 1 [.ref b] (fun U => va_at (gDD G) vwCl (b, .inr (13, [.ref v, .int 0, .int 0, .int (nI n)])) U.heap) (some (.ref v)) := by
  refine met_Pa (by decide +kernel) (Nat.le_of_ble_eq_true rfl) rfl (Or.inr ⟨_, rfl⟩) (Or.inr ⟨_, rfl⟩) ?_
  intro p e s m args below meth c Q ls X hP hr hl
  have hx := X.1.1
  have hb := X.1.2.1
  have hA : ∀ q, q < s.heap.size → (fun _ : Nat => False) q → gA G q := fun q _ h9 => h9.elim
  have hS : va_S (fun _ => False) s.heap s.heap [] := va_S.rf
  have hl : lv_has ls 1 [(0, .ref b)] := hl
  have f0 := hP
  refine lv_aload_n hx hb dJ5_getValue_6d5f1_0 rfl (lv_at hl 0 rfl) ?_
  refine p_get (T := TJ4) (N := 4) (k := 0) X f0 inTB_SB rfl (by decide) m_3_187 rfl dJ5_getValue_6d5f1_1 ?_
  exact hr _ _ dJ5_getValue_6d5f1_4
set_option maxHeartbeats 2000000 in
theorem cp_checkLength {G : Gt} {l : Launch} {n : Nat} (hn : n < 2 ^ 31) {Pf : State → Prop} : CtP G l yJ7_checkLength_df160 cJ7_checkLength_df160 2 none 1 [.int 0, .int (nI n)] Pf none := by
  refine met_Pv (by decide +kernel) (Nat.le_of_ble_eq_true rfl) rfl ?_
  intro p e s m args below meth c Q ls X hP hr hl
  have hx := X.1.1
  have hb := X.1.2.1
  have hA : ∀ q, q < s.heap.size → (fun _ : Nat => False) q → gA G q := fun q _ h9 => h9.elim
  have hS : va_S (fun _ => False) s.heap s.heap [] := va_S.rf
  have hl : lv_has ls 2 [(0, .int 0), (1, .int (nI n))] := hl
  refine lv_iload_n hx hb dJ7_checkLength_df160_0 rfl (lv_at hl 1 rfl) ?_
  refine lv_iload_n hx hb dJ7_checkLength_df160_1 rfl (lv_at hl 0 rfl) ?_
  refine lv_icmp_ge (tgt := 37) hx hb dJ7_checkLength_df160_2 (by decide) (fun _ => ?_) (fun hc => absurd (nI_pos' (by omega)) hc)
  exact hr _ _ dJ7_checkLength_df160_37
set_option maxHeartbeats 2000000 in
theorem ch_copyRB {G : Gt} {l : Launch} {v cap n sz : Nat} {f : Nat → Int32} (hG : AllA G) (hf : bfit f) (h : n ≤ cap) (hc : cap < 2 ^ 28) : CtH G l yJ7_copyOfRangeByte_39247 cJ7_copyOfRangeByte_39247 5 (some (.array .byte)) 2 1 (n) [.ref v, .int 0, .int (nI n)] sz (fun _ => False) (fun U => va_at (gDD G) vwCl (v, .inl (gty G 7, cap, .inl f)) U.heap) (fun ov H => ∃ w, ov = some (.ref w) ∧ sz ≤ w ∧ va_at (gDD G) vwCl (w, .inl (gty G 7, n, .inl (va_cpy f (fun _ => 0) 0 0 n))) H) := by
  refine met_Ha (by decide +kernel) (Nat.le_of_ble_eq_true rfl) rfl (Or.inr ⟨_, rfl⟩) ?_
  intro p e s m args below meth c Q ls X hnm hsz hP hr hl
  have hx := X.1.1
  have hb := X.1.2.1
  have hgz : gz G ≤ sz := by rw [← hsz]; exact X.2.1.2.1
  have hA : ∀ q, q < s.heap.size → frA (fun _ => False) sz q → gA G q := fun q h8 h9 => hG q (by simp only [frA, false_or] at h9; omega)
  have hS : va_S (frA (fun _ => False) sz) s.heap s.heap [] := va_S.rf
  have hl : lv_has ls 5 [(0, .ref v), (1, .int 0), (2, .int (nI n))] := hl
  have f1 := hP
  refine lv_iload_n hx hb dJ7_copyOfRangeByte_39247_0 rfl (lv_at hl 1 rfl) ?_
  refine lv_iload_n hx hb dJ7_copyOfRangeByte_39247_1 rfl (lv_at hl 2 rfl) ?_
  refine callP_S (As := [.int 0, .int (nI n)]) X hS hA (Mv.true) (fun U hU hv => trivial) m_4_123 m_4_124 mv_J7_checkLength_df160 (cp_checkLength (Pf := fun _ => True) (by omega)) (by decide) rfl rfl (Nat.le_of_ble_eq_true rfl) hl.1 dJ7_copyOfRangeByte_39247_2 (by show _ ≤ _; simp only [rmC]; omega) (by show _ ≤ _; simp only [rmC]; omega) ?_
  refine lv_iload_n hx hb dJ7_copyOfRangeByte_39247_5 rfl (lv_at hl 2 rfl) ?_
  refine lv_iload_n hx hb dJ7_copyOfRangeByte_39247_6 rfl (lv_at hl 1 rfl) ?_
  refine lv_isub hx hb dJ7_copyOfRangeByte_39247_7 ?_
  refine lv_to (y := nI n) (Int32.sub_zero _) ?_
  refine lv_istore_n (lv' := [(3, .int (nI n)), (0, .ref v), (1, .int 0), (2, .int (nI n))]) hx hb dJ7_copyOfRangeByte_39247_8 rfl hl (by decide) rfl ?_
  clear hl; intro ls hl
  refine lv_iload_n hx hb dJ7_copyOfRangeByte_39247_9 rfl (lv_at hl 0 rfl) ?_
  refine p_newa (atype := .byte) (ty := .byte) (t := 7) (N := n) (a0 := (n, .inl (fun _ => 0))) X m_3_200 rfl rfl (fun _ h => by cases h) rfl (nI_pos (by omega)) (nI_clamp (by omega)) (by show _ * 1 ≤ _; omega) (by show _ ≤ _; simp only [rmC]; omega) (by show _ ≤ _; simp only [rmC]; omega) dJ7_copyOfRangeByte_39247_10 fun H2 nH2 zH2 oH2 => ?_
  have lq1_f1_0 := f1.lt
  have lq1_0 := hS.1
  replace f1 := f1.kept (oH2 _ lq1_f1_0)
  replace hS := hS.new zH2 oH2
  clear oH2
  generalize hq_q1 : Array.size _ = q1 at nH2 zH2 lq1_0 lq1_f1_0 ⊢
  have fa3 : va_at (gDD G) vwCl (q1, .inl (gty G 7, n, .inl (fun _ => 0))) H2 := nH2
  clear nH2
  refine lv_astore (lv' := [(4, .ref q1), (3, .int (nI n)), (0, .ref v), (1, .int 0), (2, .int (nI n))]) hx hb dJ7_copyOfRangeByte_39247_12 hl (by decide) rfl ?_
  clear hl; intro ls hl
  refine lv_aload_n hx hb dJ7_copyOfRangeByte_39247_14 rfl (lv_at hl 2 rfl) ?_
  refine lv_iload_n hx hb dJ7_copyOfRangeByte_39247_15 rfl (lv_at hl 3 rfl) ?_
  refine lv_aload hx hb dJ7_copyOfRangeByte_39247_16 (lv_at hl 0 rfl) ?_
  refine lv_iconst (v := 0) hx hb dJ7_copyOfRangeByte_39247_18 (by decide) ?_
  refine lv_aload_n hx hb dJ7_copyOfRangeByte_39247_19 rfl (lv_at hl 2 rfl) ?_
  refine p_alen (t := 7) X f1 rfl dJ7_copyOfRangeByte_39247_20 ?_
  refine lv_iload_n hx hb dJ7_copyOfRangeByte_39247_21 rfl (lv_at hl 3 rfl) ?_
  refine lv_isub hx hb dJ7_copyOfRangeByte_39247_22 ?_
  refine lv_to (y := nI cap) (Int32.sub_zero _) ?_
  refine lv_iload_n hx hb dJ7_copyOfRangeByte_39247_23 rfl (lv_at hl 1 rfl) ?_
  refine callP_S (As := [.int (nI cap), .int (nI n)]) X hS hA (Mv.true) (fun U hU hv => trivial) m_3_237 m_2_227 mv_J9_min_7cf53 (cp_min (Pf := fun _ => True) (by omega) (by omega)) (by decide) rfl rfl (Nat.le_of_ble_eq_true rfl) hl.1 dJ7_copyOfRangeByte_39247_24 (by show _ ≤ _; simp only [rmC]; omega) (by show _ ≤ _; simp only [rmC]; omega) ?_
  refine lv_to (y := nI n) (by rw [show min cap n = n from by omega]) ?_
  refine p_copyT (sp := 0) (dp := 0) (n := n) X (va_T_of X.2.1.1 f1) fa3 (by omega) (by omega) (by omega) (by omega) (fun i _ => hf _) m_3_238 (by decide) (Nat.le_of_ble_eq_true rfl) hl.1 dJ7_copyOfRangeByte_39247_27 fun H4 LH4 nH4 zH4 oH4 xH4 => ?_
  replace f1 := f1.kept (oH4 _ (by omega))
  replace hS := va_S.puts hS zH4 oH4 xH4 (Or.inr (by omega))
  replace fa3 : va_at (gDD G) vwCl (q1, .inl (gty G 7, n, .inl (va_cpy f (fun _ => 0) 0 0 n))) H4 := nH4
  clear zH4 oH4
  refine lv_aload hx hb dJ7_copyOfRangeByte_39247_30 (lv_at hl 0 rfl) ?_
  exact hr _ _ _ _ _ _ _ dJ7_copyOfRangeByte_39247_32 ⟨_, rfl, by omega, fa3⟩ hS (by omega) (by omega)
theorem va_at_cg {G : Gt} {a n t : Nat} {f g : Nat → Int32} {H : Heap} (h : ∀ i, i < n → f i = g i) (h1 : va_at (gDD G) vwCl (a, .inl (gty G t, n, .inl f)) H) : va_at (gDD G) vwCl (a, .inl (gty G t, n, .inl g)) H := by
  have e : vp_cell (gty G t) (n, .inl f) = vp_cell (gty G t) (n, .inl g) := by
    rw [vp_cell_i, vp_cell_i]
    unfold arrV
    have : (Array.ofFn fun j : Fin n => Value.int (f j.val)) = Array.ofFn fun j : Fin n => Value.int (g j.val) := congrArg Array.ofFn (funext fun j => by rw [h j.val j.2])
    rw [this]
  show H[a]? = some (vp_cell _ _)
  rw [← e]
  exact h1
section
variable {G : Gt} {p : Program} {l : Launch} {e : Env} {R : Room} {s : State} {m : MethodId} {args : Array Value} {below : List Frame} {meth : Method} {c : Code} {H : Heap} {locs : List Loc} {cells slots : Nat} {Q : State → Prop}
variable {cc : ByteArray} {nL h idx cells0 slots0 a t : Nat} {own ad : String} {pc : Nat} {ls : Array Slot} {rest : List Value} {x : vp_A} {ty : FieldType}
theorem p_clone (X : Cx G p R s m args c cells0 slots0 cc nL own h) (hf : va_at (gDD G) vwCl (a, .inl (gty G t, x)) H) (ht : (tysG G)[t]? = some (gty G t, ty)) (hnm : s.vm.findClass ad = some (gty G t)) (lk : Cond.methodLink own idx ⟨ad, "clone", "()Ljava/lang/Object;"⟩ ∈ TB) (hsame : Cond.sameMethod ad "java/lang/Object" "clone" "()Ljava/lang/Object;" ∈ TB) (hnat : Cond.native ⟨"java/lang/Object", "clone", "()Ljava/lang/Object;"⟩ ∈ TB) (hin : Cond.instanceMethod ⟨"java/lang/Object", "clone", "()Ljava/lang/Object;"⟩ ∈ TB) (hsel : Cond.selects ad ⟨ad, "clone", "()Ljava/lang/Object;"⟩ ⟨"java/lang/Object", "clone", "()Ljava/lang/Object;"⟩ ∈ TB) (hcst : Cond.castable ad "java/lang/Cloneable" ∈ TB) (hfit : ∀ (i : Nat) (v : Value), (vp_cell (gty G t) x).slots[i]? = some v → fits ty v = true) (hh : 1 ≤ h) (hcat : (rest.map fun v => v.category).sum ≤ 8) (hls : ls.size = nL) (hcells : cells + 1 ≤ R.cells) (hslots : slots + x.1 ≤ R.slots) (hd : decode cc pc = .ok (.invokevirtual idx, 3))
    (kk : ∀ (H1 : Heap), va_at (gDD G) vwCl (H.size, .inl (gty G t, x)) H1 → H1.size = H.size + 1 → (∀ q : Nat, q < H.size → H1[q]? = H[q]?) → W p l e R s m args below meth c H1 locs (cells + 1) (slots + x.1) Q (F0 m (pc + 3) ls (.ref H.size :: rest))) : W p l e R s m args below meth c H locs cells slots Q (F0 m pc ls (.ref a :: rest)) := by
  have hts := X.1.2.2.2.2
  have hsz : (vp_cell (gty G t) x).slots.size = x.1 := by
    obtain ⟨n, f | f | f | f | f⟩ := x <;> exact arrV_size _ _ _
  have hvm0 : (vp_cell (gty G t) x).vm = .none := by
    obtain ⟨n, f | f | f | f | f⟩ := x <;> rfl
  have hcl0 : (vp_cell (gty G t) x).cls = gty G t := by
    obtain ⟨n, f | f | f | f | f⟩ := x <;> rfl
  have hcellE : ({ cls := (vp_cell (gty G t) x).cls, slots := (vp_cell (gty G t) x).slots } : Cell) = vp_cell (gty G t) x := by
    obtain ⟨n, f | f | f | f | f⟩ := x <;> rfl
  obtain ⟨c0, t0, f1, f2, f3⟩ := Cond.castable_spec (hts _ hcst)
  cases hnm.symm.trans f1
  intro T hT X1
  have hcellT : T.heap[a]? = some (vp_cell (gty G t) x) := by rw [hT]; exact hf
  obtain ⟨-, kA, hkA, comp, hkind⟩ := State.isArrayOf_alike X1.warmed.alike ((X.2.1.1.2 t _ ht).1 0 (fun _ => .null))
  obtain ⟨-, kS, hkS, compS, hkindS⟩ := (X.2.1.1.2 t _ ht).1 0 (fun _ => .null)
  obtain ⟨vm', X', st⟩ := X1.cloneArray X.1.1 X.1.2.2.2.1 (hts _ lk) (hts _ hsame) (hts _ hnat) (hts _ hin) (hts _ hsel) (a := a) (cell := vp_cell (gty G t) x) hcellT (fun k h => by rw [hvm0] at h; cases h) (by rw [hvm0]; exact fun h => by cases h) (by rw [hcl0]; exact hnm) f2 (by rw [hcl0]; exact f3)
    (fun i v hv => by
      rw [hcl0]
      have hk' : T.vm.classes[gty G t]? = some kA := hkA
      simpa [State.fitsSlot, State.slotType?, hk', hkind] using hfit i v hv)
    (g := F0 m pc ls (.ref a :: rest)) rfl (by rw [X.1.2.2.1]; exact hls) rfl (by rw [X.1.2.1]; exact hd) (Nat.le_trans hh X.2.2.1) (by
      have h1 := X.2.2.2.1
      show 2 * 0 + _ + 14 ≤ _
      omega) hcells (by rw [hsz]; exact hslots) (hloader := by rw [hcl0]; exact Vm.clonesLoader_of_array hkS hkindS)
  rw [hcellE, hsz] at X'
  obtain ⟨t2, b1, b2⟩ := kk (H.push (vp_cell (gty G t) x)) (show (H.push _)[H.size]? = some _ from Array.getElem?_push_size) (Array.size_push ..) (fun q hq => by rw [Array.getElem?_push, if_neg (Nat.ne_of_lt hq)]) _ (by show T.heap.push _ = _; rw [hT]) X'
  refine ⟨t2, st t2 ?_, b2⟩
  have e1 : ((T.setVm vm').pushCell { cls := (vp_cell (gty G t) x).cls, slots := (vp_cell (gty G t) x).slots }) = (T.setVm vm').pushCell (vp_cell (gty G t) x) := by rw [hcellE]
  rw [e1, hT]
  exact b1
theorem p_casta (X : Cx G p R s m args c cells0 slots0 cc nL own h) (hf : va_at (gDD G) vwCl (a, .inl (gty G t, x)) H) (hnm : s.vm.findClass ad = some (gty G t)) (hl : Cond.classLink own idx ad ∈ TB) (hd : decode cc pc = .ok (.checkcast idx, 3))
    (kk : W p l e R s m args below meth c H locs cells slots Q (F0 m (pc + 3) ls (.ref a :: rest))) : W p l e R s m args below meth c H locs cells slots Q (F0 m pc ls (.ref a :: rest)) := va_castA X.1.1 X.1.2.1 X.1.2.2.2.1 (X.1.2.2.2.2 _ hl) (P1 hf) 0 rfl hnm hd kk
end
theorem vp_fitB {G : Gt} {n : Nat} {f : Nat → Int32} (hf : bfit f) (i : Nat) (v : Value) (h : (vp_cell (gty G 7) (n, .inl f)).slots[i]? = some v) : fits .byte v = true := by
  rw [vp_cell_i] at h
  exact va_fit (fun i _ => hf i) i v h
set_option maxHeartbeats 2000000 in
theorem ch_copyR0 {G : Gt} {l : Launch} {v cap n sz : Nat} {f : Nat → Int32} (hG : AllA G) (hf : bfit f) (h : n < cap) (hc : cap < 2 ^ 28) : CtH G l yJ7_copyOfRange_39247 cJ7_copyOfRange_39247 3 (some (.array .byte)) 3 1 (n) [.ref v, .int 0, .int (nI n)] sz (fun _ => False) (fun U => va_at (gDD G) vwCl (v, .inl (gty G 7, cap, .inl f)) U.heap) (fun ov H => ∃ w g, ov = some (.ref w) ∧ sz ≤ w ∧ va_at (gDD G) vwCl (w, .inl (gty G 7, n, .inl g)) H ∧ ∀ i, i < n → g i = f i) := by
  refine met_Ha (by decide +kernel) (Nat.le_of_ble_eq_true rfl) rfl (Or.inr ⟨_, rfl⟩) ?_
  intro p e s m args below meth c Q ls X hnm hsz hP hr hl
  have hx := X.1.1
  have hb := X.1.2.1
  have hgz : gz G ≤ sz := by rw [← hsz]; exact X.2.1.2.1
  have hA : ∀ q, q < s.heap.size → frA (fun _ => False) sz q → gA G q := fun q h8 h9 => hG q (by simp only [frA, false_or] at h9; omega)
  have hS : va_S (frA (fun _ => False) sz) s.heap s.heap [] := va_S.rf
  have hl : lv_has ls 3 [(0, .ref v), (1, .int 0), (2, .int (nI n))] := hl
  have f1 := hP
  refine lv_iload_n hx hb dJ7_copyOfRange_39247_0 rfl (lv_at hl 1 rfl) ?_
  refine lv_if_ne (tgt := 10) hx hb dJ7_copyOfRange_39247_1 (by decide) (fun hc => absurd rfl hc) (fun _ => ?_)
  refine lv_iload_n hx hb dJ7_copyOfRange_39247_4 rfl (lv_at hl 2 rfl) ?_
  refine lv_aload_n hx hb dJ7_copyOfRange_39247_5 rfl (lv_at hl 0 rfl) ?_
  refine p_alen (t := 7) X f1 rfl dJ7_copyOfRange_39247_6 ?_
  refine lv_icmp_eq (tgt := 17) hx hb dJ7_copyOfRange_39247_7 (by decide) (fun hc => absurd hc (fun h9 => by rw [nI_eq (by omega) (by omega)] at h9; omega)) (fun _ => ?_)
  refine lv_aload_n hx hb dJ7_copyOfRange_39247_10 rfl (lv_at hl 0 rfl) ?_
  refine lv_iload_n hx hb dJ7_copyOfRange_39247_11 rfl (lv_at hl 1 rfl) ?_
  refine lv_iload_n hx hb dJ7_copyOfRange_39247_12 rfl (lv_at hl 2 rfl) ?_
  refine callH_S (As := [.ref v, .int 0, .int (nI n)]) X hS hA (Mv.h _) (fun U hU hv => by rw [hU]; exact f1) (fun q h9 => by simp only [frA, false_or] at h9 ⊢; have := hS.1; omega) m_4_120 m_4_121 mv_J7_copyOfRangeByte_39247 (ch_copyRB hG hf (by omega) hc) (by decide) rfl rfl (Nat.le_of_ble_eq_true rfl) hl.1 dJ7_copyOfRange_39247_13 (by show _ ≤ _; simp only [rmC]; omega) (by show _ ≤ _; simp only [rmC]; omega) fun vH1 H1 locs qH1 zH1 oH1 hS2 => ?_
  have lH1_f1_0 := f1.lt
  have lH1_0 := hS.1
  replace f1 := f1.kept (oH1 _ lH1_f1_0 (fun h9 => by first | exact h9.elim | omega | (dsimp only at h9; omega)))
  replace hS := hS2; clear hS2 oH1
  obtain ⟨w, rfl, hw1, g1⟩ := qH1
  exact hr _ _ _ _ _ _ _ dJ7_copyOfRange_39247_16 ⟨_, _, rfl, by omega, g1, fun i hi => by rw [cpy_new ⟨by omega, by omega⟩]; simp⟩ hS (by omega) (by omega)
set_option maxHeartbeats 2000000 in
theorem ch_copyR1 {G : Gt} {l : Launch} {v cap n sz : Nat} {f : Nat → Int32} (hG : AllA G) (hf : bfit f) (hn : n = cap) (hc : cap < 2 ^ 28) : CtH G l yJ7_copyOfRange_39247 cJ7_copyOfRange_39247 3 (some (.array .byte)) 3 1 (cap) [.ref v, .int 0, .int (nI n)] sz (fun _ => False) (fun U => va_at (gDD G) vwCl (v, .inl (gty G 7, cap, .inl f)) U.heap) (fun ov H => ∃ w g, ov = some (.ref w) ∧ sz ≤ w ∧ va_at (gDD G) vwCl (w, .inl (gty G 7, n, .inl g)) H ∧ ∀ i, i < n → g i = f i) := by
  refine met_Ha (by decide +kernel) (Nat.le_of_ble_eq_true rfl) rfl (Or.inr ⟨_, rfl⟩) ?_
  intro p e s m args below meth c Q ls X hnm hsz hP hr hl
  have hx := X.1.1
  have hb := X.1.2.1
  have hgz : gz G ≤ sz := by rw [← hsz]; exact X.2.1.2.1
  have hA : ∀ q, q < s.heap.size → frA (fun _ => False) sz q → gA G q := fun q h8 h9 => hG q (by simp only [frA, false_or] at h9; omega)
  have hS : va_S (frA (fun _ => False) sz) s.heap s.heap [] := va_S.rf
  have hl : lv_has ls 3 [(0, .ref v), (1, .int 0), (2, .int (nI n))] := hl
  have f1 := hP
  refine lv_iload_n hx hb dJ7_copyOfRange_39247_0 rfl (lv_at hl 1 rfl) ?_
  refine lv_if_ne (tgt := 10) hx hb dJ7_copyOfRange_39247_1 (by decide) (fun hc => absurd rfl hc) (fun _ => ?_)
  refine lv_iload_n hx hb dJ7_copyOfRange_39247_4 rfl (lv_at hl 2 rfl) ?_
  refine lv_aload_n hx hb dJ7_copyOfRange_39247_5 rfl (lv_at hl 0 rfl) ?_
  refine p_alen (t := 7) X f1 rfl dJ7_copyOfRange_39247_6 ?_
  refine lv_icmp_eq (tgt := 17) hx hb dJ7_copyOfRange_39247_7 (by decide) (fun _ => ?_) (fun hc => absurd (by rw [hn]) hc)
  refine lv_aload_n hx hb dJ7_copyOfRange_39247_17 rfl (lv_at hl 0 rfl) ?_
  refine p_clone (t := 7) (ad := "[B") X f1 rfl (va_nm_byte (X.2.1.1.2 7 _ rfl).2) m_3_232 m_3_233 m_3_165 m_3_166 m_3_234 m_3_235 (vp_fitB hf) (by decide) (Nat.le_of_ble_eq_true rfl) hl.1 (by show _ ≤ _; simp only [rmC]; omega) (by show _ ≤ _; simp only [rmC]; omega) dJ7_copyOfRange_39247_18 fun H2 nH2 zH2 oH2 => ?_
  have lq1_f1_0 := f1.lt
  have lq1_0 := hS.1
  replace f1 := f1.kept (oH2 _ lq1_f1_0)
  replace hS := hS.new zH2 oH2
  clear oH2
  generalize hq_q1 : Array.size _ = q1 at nH2 zH2 lq1_0 lq1_f1_0 ⊢
  have fa3 : va_at (gDD G) vwCl (q1, .inl (gty G 7, cap, .inl f)) H2 := nH2
  clear nH2
  refine p_casta (t := 7) (ad := "[B") X fa3 (va_nm_byte (X.2.1.1.2 7 _ rfl).2) m_3_236 dJ7_copyOfRange_39247_21 ?_
  exact hr _ _ _ _ _ _ _ dJ7_copyOfRange_39247_24 ⟨_, f, rfl, by omega, by rw [hn]; exact fa3, fun _ _ => rfl⟩ hS (by omega) (by omega)
theorem ch_copyR {G : Gt} {l : Launch} {v cap n sz : Nat} {f : Nat → Int32} (hG : AllA G) (hf : bfit f) (h : n ≤ cap) (hc : cap < 2 ^ 28) : CtH G l yJ7_copyOfRange_39247 cJ7_copyOfRange_39247 3 (some (.array .byte)) 3 1 n [.ref v, .int 0, .int (nI n)] sz (fun _ => False) (fun U => va_at (gDD G) vwCl (v, .inl (gty G 7, cap, .inl f)) U.heap) (fun ov H => ∃ w g, ov = some (.ref w) ∧ sz ≤ w ∧ va_at (gDD G) vwCl (w, .inl (gty G 7, n, .inl g)) H ∧ ∀ i, i < n → g i = f i) := by
  by_cases c : n < cap
  · exact ch_copyR0 hG hf c hc
  · obtain rfl : n = cap := by omega
    exact ch_copyR1 hG hf rfl hc
