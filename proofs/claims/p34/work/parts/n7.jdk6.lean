def yOTS : MethodName := ⟨"java/lang/Object", "toString", "()Ljava/lang/String;"⟩
theorem m_4_91 : Cond.instanceMethod yJ4_toString_0e30d ∈ TB := mem_t4 91 (by decide +kernel)
theorem m_4_93 : Cond.code yJ4_toString_0e30d cJ4_toString_0e30d 1 (some (.object "java/lang/String")) ∈ TB := mem_t4 93 (by decide +kernel)
theorem m_4_94 : Cond.classLink RJ4 18 "java/lang/String" ∈ TB := mem_t4 94 (by decide +kernel)
theorem m_4_95 : Cond.instantiable "java/lang/String" 4 ∈ TB := mem_t4 95 (by decide +kernel)
theorem m_4_96 : Cond.methodLink RJ4 137 yJ0_init_81219 ∈ TB := mem_t4 96 (by decide +kernel)
theorem m_4_97 : Cond.instanceMethod yJ0_init_81219 ∈ TB := mem_t4 97 (by decide +kernel)
theorem m_4_98 : Cond.code yJ0_init_81219 cJ0_init_81219 2 none ∈ TB := mem_t4 98 (by decide +kernel)
theorem m_4_99 : Cond.methodLink RJ0 489 yJ0_init_db425 ∈ TB := mem_t4 99 (by decide +kernel)
theorem m_4_100 : Cond.instanceMethod yJ0_init_db425 ∈ TB := mem_t4 100 (by decide +kernel)
theorem m_4_101 : Cond.code yJ0_init_db425 cJ0_init_db425 5 none ∈ TB := mem_t4 101 (by decide +kernel)
theorem m_4_102 : Cond.methodLink RJ0 1 objectInit ∈ TB := mem_t4 102 (by decide +kernel)
theorem m_4_103 : Cond.methodLink RJ0 552 yJ5_getValue_6d5f1 ∈ TB := mem_t4 103 (by decide +kernel)
theorem m_4_104 : Cond.instanceMethod yJ5_getValue_6d5f1 ∈ TB := mem_t4 104 (by decide +kernel)
theorem m_4_106 : Cond.selects RJ4 yJ5_getValue_6d5f1 yJ5_getValue_6d5f1 ∈ TB := mem_t4 106 (by decide +kernel)
theorem m_4_107 : Cond.code yJ5_getValue_6d5f1 cJ5_getValue_6d5f1 1 (some (.array .byte)) ∈ TB := mem_t4 107 (by decide +kernel)
theorem m_4_108 : Cond.methodLink RJ0 549 yJ5_length_8abf5 ∈ TB := mem_t4 108 (by decide +kernel)
theorem m_4_111 : Cond.selects RJ4 yJ5_length_8abf5 yJ4_length_8abf5 ∈ TB := mem_t4 111 (by decide +kernel)
theorem m_4_112 : Cond.instanceMethod yJ4_length_8abf5 ∈ TB := mem_t4 112 (by decide +kernel)
theorem m_4_113 : Cond.code yJ4_length_8abf5 cJ4_length_8abf5 1 (some .int) ∈ TB := mem_t4 113 (by decide +kernel)
theorem m_4_116 : Cond.methodLink RJ0 1047 yJ5_isLatin1_aae02 ∈ TB := mem_t4 116 (by decide +kernel)
theorem m_4_117 : Cond.methodLink RJ0 54 yJ7_copyOfRange_39247 ∈ TB := mem_t4 117 (by decide +kernel)
theorem m_4_118 : Cond.static yJ7_copyOfRange_39247 ∈ TB := mem_t4 118 (by decide +kernel)
theorem m_4_119 : Cond.code yJ7_copyOfRange_39247 cJ7_copyOfRange_39247 3 (some (.array .byte)) ∈ TB := mem_t4 119 (by decide +kernel)
theorem m_7_30 : Cond.methodLink RJ4 17 yJ0_valueOf_8a030 ∈ TB := mem_t7 30 (by decide +kernel)
theorem m_7_31 : Cond.static yJ0_valueOf_8a030 ∈ TB := mem_t7 31 (by decide +kernel)
theorem m_7_32 : Cond.code yJ0_valueOf_8a030 cJ0_valueOf_8a030 1 (some (.object "java/lang/String")) ∈ TB := mem_t7 32 (by decide +kernel)
theorem m_7_34 : Cond.declares yOTS ∈ TB := mem_t7 34 (by decide +kernel)
theorem m_7_35 : Cond.methodLink RJ0 1007 yOTS ∈ TB := mem_t7 35 (by decide +kernel)
theorem m_7_38 : Cond.selects RX10 yOTS yOTS ∈ TB := mem_t7 38 (by decide +kernel)
theorem m_7_106 : Cond.selects RJ4 yOTS yJ4_toString_0e30d ∈ TB := mem_t7 106 (by decide +kernel)
theorem m_7_112 : Cond.methodLink RJ4 7 yJ5_init_a7421 ∈ TB := mem_t7 112 (by decide +kernel)
theorem m_7_113 : Cond.instanceMethod yJ5_init_a7421 ∈ TB := mem_t7 113 (by decide +kernel)
theorem m_7_114 : Cond.code yJ5_init_a7421 cJ5_init_a7421 5 none ∈ TB := mem_t7 114 (by decide +kernel)
theorem m_7_115 : Cond.constant RJ5 38 2147483631 ∈ TB := mem_t7 115 (by decide +kernel)
theorem m_7_116 : Cond.methodLink RJ5 43 yJ5_append_cf1ce ∈ TB := mem_t7 116 (by decide +kernel)
theorem m_7_117 : Cond.instanceMethod yJ4_append_cf1ce ∈ TB := mem_t7 117 (by decide +kernel)
theorem m_7_118 : Cond.code yJ4_append_cf1ce cJ4_append_cf1ce 2 (some (.object "java/lang/AbstractStringBuilder")) ∈ TB := mem_t7 118 (by decide +kernel)
theorem m_7_175 : Cond.selects RJ4 yJ5_append_cf1ce yJ4_append_cf1ce ∈ TB := mem_t7 175 (by decide +kernel)
theorem mv_J5_getValue_6d5f1 : MV yJ5_getValue_6d5f1 cJ5_getValue_6d5f1 1 (some (.array .byte)) 0 := ⟨m_4_107, by decide +kernel, m_1_5, ⟨by decide +kernel, by decide +kernel, by decide +kernel⟩, by decide⟩
theorem mv_J4_length_8abf5 : MV yJ4_length_8abf5 cJ4_length_8abf5 1 (some .int) 0 := ⟨m_4_113, by decide +kernel, m_1_6, ⟨by decide +kernel, by decide +kernel, by decide +kernel⟩, by decide⟩
theorem mv_J7_copyOfRange_39247 : MV yJ7_copyOfRange_39247 cJ7_copyOfRange_39247 3 (some (.array .byte)) 3 := ⟨m_4_119, by decide +kernel, m_1_11, ⟨by decide +kernel, by decide +kernel, by decide +kernel⟩, by decide⟩
theorem mv_J0_init_db425 : MV yJ0_init_db425 cJ0_init_db425 5 none 2 := ⟨m_4_101, by decide +kernel, m_1_7, ⟨by decide +kernel, by decide +kernel, by decide +kernel⟩, by decide⟩
theorem mv_J0_init_81219 : MV yJ0_init_81219 cJ0_init_81219 2 none 1 := ⟨m_4_98, by decide +kernel, m_1_7, ⟨by decide +kernel, by decide +kernel, by decide +kernel⟩, by decide⟩
theorem mv_J4_toString_0e30d : MV yJ4_toString_0e30d cJ4_toString_0e30d 1 (some (.object "java/lang/String")) 0 := ⟨m_4_93, by decide +kernel, m_1_6, ⟨by decide +kernel, by decide +kernel, by decide +kernel⟩, by decide⟩
theorem mv_J0_valueOf_8a030 : MV yJ0_valueOf_8a030 cJ0_valueOf_8a030 1 (some (.object "java/lang/String")) 1 := ⟨m_7_32, by decide +kernel, m_1_7, ⟨by decide +kernel, by decide +kernel, by decide +kernel⟩, by decide⟩
theorem mv_J4_append_cf1ce : MV yJ4_append_cf1ce cJ4_append_cf1ce 2 (some (.object "java/lang/AbstractStringBuilder")) 1 := ⟨m_7_118, by decide +kernel, m_1_6, ⟨by decide +kernel, by decide +kernel, by decide +kernel⟩, by decide⟩
theorem mv_J5_init_a7421 : MV yJ5_init_a7421 cJ5_init_a7421 5 none 1 := ⟨m_7_114, by decide +kernel, m_1_5, ⟨by decide +kernel, by decide +kernel, by decide +kernel⟩, by decide⟩
theorem sl_RJ4_J5_getValue_6d5f1 : Slc RJ4 yJ5_getValue_6d5f1 yJ5_getValue_6d5f1 0 := ⟨Or.inl m_4_106, ⟨_, _, _, m_4_2, rfl⟩, ⟨_, _, _, m_4_2, rfl⟩, Or.inr ⟨m_4_104, _, _, _, m_4_107⟩, m_4_104, ⟨by decide +kernel, by decide +kernel⟩, by decide +kernel⟩
theorem sl_RJ4_J5_length_8abf5 : Slc RJ4 yJ5_length_8abf5 yJ4_length_8abf5 0 := ⟨Or.inl m_4_111, ⟨_, _, _, m_4_2, rfl⟩, ⟨_, _, _, m_3_203, rfl⟩, Or.inr ⟨m_4_109, _, _, _, m_4_115⟩, m_4_112, ⟨by decide +kernel, by decide +kernel⟩, by decide +kernel⟩
theorem sl_RJ4_OTS : Slc RJ4 yOTS yJ4_toString_0e30d 0 := ⟨Or.inl m_7_106, ⟨_, _, _, m_7_38, rfl⟩, ⟨_, _, _, m_3_203, rfl⟩, Or.inl m_7_34, m_4_91, ⟨by decide +kernel, by decide +kernel⟩, by decide +kernel⟩
theorem sl_RJ4_J5_append_cf1ce : Slc RJ4 yJ5_append_cf1ce yJ4_append_cf1ce 1 := ⟨Or.inl m_7_175, ⟨_, _, _, m_4_2, rfl⟩, ⟨_, _, _, m_3_203, rfl⟩, Or.inr ⟨m_3_206, _, _, _, m_3_207⟩, m_7_117, ⟨by decide +kernel, by decide +kernel⟩, by decide +kernel⟩
/-! TEXTS made -/
theorem ST.of {G : Gt} {a b : Nat} {t : List Nat} {g : Nat → Int32} {H : Heap} (h1 : va_at (gDD G) vwCl (a, .inr (14, [.ref b, .int 0, .int 0, .int 0])) H) (h2 : va_at (gDD G) vwCl (b, .inl (gty G 7, t.length, .inl g)) H) (h3 : agr g t) : ST G a b t H := ⟨0, 0, h1, va_at_cg (fun i hi => h3 i hi) h2⟩
theorem SBs.latin {G : Gt} {b v : Nat} {t : List Nat} {H : Heap} (h : SBs G b v t H) : True := trivial
set_option maxHeartbeats 2000000 in
theorem ch_STinit2 {G : Gt} {l : Launch} {a b v sz : Nat} {t : List Nat} (hG : AllA G) (hga : gz G ≤ a) (hab : a ≠ b) (hav : a ≠ v) (h : t.length < 2 ^ 26) : CtH G l yJ0_init_db425 cJ0_init_db425 5 none 4 1 (t.length) [.ref a, .ref b, .null] sz (fun q => q = a) (fun U => va_at (gDD G) vwCl (a, .inr (14, [.null, .int 0, .int 0, .int 0])) U.heap ∧ SBs G b v t U.heap) (fun ov H => ov = none ∧ ∃ w, sz ≤ w ∧ ST G a w t H) := by
  refine met_H (by decide +kernel) (Nat.le_of_ble_eq_true rfl) .return_ (Or.inl ⟨rfl, rfl, rfl⟩) ?_
  intro p e s m args below meth c Q ls X hnm hsz hP hr hl
  have hx := X.1.1
  have hb := X.1.2.1
  have hgz : gz G ≤ sz := by rw [← hsz]; exact X.2.1.2.1
  have hA : ∀ q, q < s.heap.size → frA (fun q => q = a) sz q → gA G q := fun q h8 h9 => hG q (by simp only [frA, false_or] at h9; omega)
  have hS : va_S (frA (fun q => q = a) sz) s.heap s.heap [] := va_S.rf
  have hl : lv_has ls 5 [(0, .ref a), (1, .ref b), (2, .null)] := hl
  obtain ⟨h0, f, cap, ⟨f0, f1⟩, hag, hf, hl1, hl2⟩ := hP
  refine lv_aload_n hx hb dJ0_init_db425_0 rfl (lv_at hl 0 rfl) ?_
  refine p_obj X m_4_102 (by decide) (Nat.le_of_ble_eq_true rfl) hl.1 dJ0_init_db425_1 ?_
  refine lv_aload_n hx hb dJ0_init_db425_4 rfl (lv_at hl 1 rfl) ?_
  refine callP_X (As := []) X hS hA (Mv.h _) (fun U hU hv => by rw [hU]; exact f0) (p_recv X f0 (r := (RJ4, TJ4, 4)) rfl) m_4_103 sl_RJ4_J5_getValue_6d5f1 mv_J5_getValue_6d5f1 (by decide) (cp_getValue (v := v) (n := t.length)) (by decide) rfl (Nat.le_of_ble_eq_true rfl) hl.1 dJ0_init_db425_5 (by show _ ≤ _; simp only [rmC]; omega) (by show _ ≤ _; simp only [rmC]; omega) ?_
  refine lv_astore_n (lv' := [(3, .ref v), (0, .ref a), (1, .ref b), (2, .null)]) hx hb dJ0_init_db425_8 rfl hl (by decide) rfl ?_
  clear hl; intro ls hl
  refine lv_aload_n hx hb dJ0_init_db425_9 rfl (lv_at hl 2 rfl) ?_
  refine callP_X (As := []) X hS hA (Mv.h _) (fun U hU hv => by rw [hU]; exact f0) (p_recv X f0 (r := (RJ4, TJ4, 4)) rfl) m_4_108 sl_RJ4_J5_length_8abf5 mv_J4_length_8abf5 (by decide) (cp_SBlen (v := v) (n := t.length)) (by decide) rfl (Nat.le_of_ble_eq_true rfl) hl.1 dJ0_init_db425_10 (by show _ ≤ _; simp only [rmC]; omega) (by show _ ≤ _; simp only [rmC]; omega) ?_
  refine lv_istore (lv' := [(4, .int (nI t.length)), (3, .ref v), (0, .ref a), (1, .ref b), (2, .null)]) hx hb dJ0_init_db425_13 hl (by decide) rfl ?_
  clear hl; intro ls hl
  refine lv_aload_n hx hb dJ0_init_db425_15 rfl (lv_at hl 3 rfl) ?_
  refine callP_X (As := []) X hS hA (Mv.h _) (fun U hU hv => by rw [hU]; exact f0) (p_recv X f0 (r := (RJ4, TJ4, 4)) rfl) m_4_116 sl_RJ4_J5_isLatin1_aae02 mv_J5_isLatin1_aae02 (by decide) (cp_SBlatin (v := v) (n := t.length)) (by decide) rfl (Nat.le_of_ble_eq_true rfl) hl.1 dJ0_init_db425_16 (by show _ ≤ _; simp only [rmC]; omega) (by show _ ≤ _; simp only [rmC]; omega) ?_
  refine lv_if_eq (tgt := 41) hx hb dJ0_init_db425_19 (by decide) (fun hc => absurd hc (by decide)) (fun _ => ?_)
  refine lv_aload_n hx hb dJ0_init_db425_22 rfl (lv_at hl 2 rfl) ?_
  refine lv_iconst (v := 0) hx hb dJ0_init_db425_23 (by decide) ?_
  refine p_put (T := TJ0) (N := 4) (k := 1) (ty := .byte) X h0 inTB_ST tyJ0 tyJ0_ok nmJ0 rfl (by decide) m_4_140 (fun _ => ⟨hnm, rfl⟩) (by decide +kernel) rfl rfl (Nat.le_of_ble_eq_true rfl) dJ0_init_db425_24 fun H1 kH1 nH1 zH1 oH1 => ?_
  replace f0 := f0.kept (oH1 _ (by omega))
  replace f1 := f1.kept (oH1 _ (by omega))
  replace hS := hS.put (k := kH1) zH1 oH1 (Or.inl rfl)
  replace h0 : va_at (gDD G) vwCl (a, .inr (14, [.null, .int 0, .int 0, .int 0])) H1 := nH1
  clear zH1 oH1
  refine lv_aload_n hx hb dJ0_init_db425_27 rfl (lv_at hl 2 rfl) ?_
  refine lv_aload_n hx hb dJ0_init_db425_28 rfl (lv_at hl 1 rfl) ?_
  refine lv_iconst (v := 0) hx hb dJ0_init_db425_29 (by decide) ?_
  refine lv_iload hx hb dJ0_init_db425_30 (lv_at hl 0 rfl) ?_
  refine callH_S (As := [.ref v, .int 0, .int (nI t.length)]) X hS hA (Mv.h _) (fun U hU hv => by rw [hU]; exact f1) (fun q h9 => by simp only [frA, false_or] at h9 ⊢; have := hS.1; omega) m_4_117 m_4_118 mv_J7_copyOfRange_39247 (ch_copyR (f := f) (cap := cap) hG hf hl1 (by omega)) (by decide) rfl rfl (Nat.le_of_ble_eq_true rfl) hl.1 dJ0_init_db425_32 (by show _ ≤ _; simp only [rmC]; omega) (by show _ ≤ _; simp only [rmC]; omega) fun vH2 H2 locs qH2 zH2 oH2 hS2 => ?_
  have lH2_h0_0 := h0.lt
  have lH2_f0_0 := f0.lt
  have lH2_f1_0 := f1.lt
  have lH2_0 := hS.1
  replace h0 := h0.kept (oH2 _ lH2_h0_0 (fun h9 => by first | exact h9.elim | omega | (dsimp only at h9; omega)))
  replace f0 := f0.kept (oH2 _ lH2_f0_0 (fun h9 => by first | exact h9.elim | omega | (dsimp only at h9; omega)))
  replace f1 := f1.kept (oH2 _ lH2_f1_0 (fun h9 => by first | exact h9.elim | omega | (dsimp only at h9; omega)))
  replace hS := hS2; clear hS2 oH2
  obtain ⟨w, g, rfl, hw1, g1, hg1⟩ := qH2
  refine p_put (T := TJ0) (N := 4) (k := 0) (ty := .array .byte) X h0 inTB_ST tyJ0 tyJ0_ok nmJ0 rfl (by decide) m_4_139 (fun _ => ⟨hnm, rfl⟩) (by decide +kernel) rfl rfl (Nat.le_of_ble_eq_true rfl) dJ0_init_db425_35 fun H3 kH3 nH3 zH3 oH3 => ?_
  replace f0 := f0.kept (oH3 _ (by omega))
  replace f1 := f1.kept (oH3 _ (by omega))
  replace g1 := g1.kept (oH3 _ (by omega))
  replace hS := hS.put (k := kH3) zH3 oH3 (Or.inl rfl)
  replace h0 : va_at (gDD G) vwCl (a, .inr (14, [.ref w, .int 0, .int 0, .int 0])) H3 := nH3
  clear zH3 oH3
  refine lv_goto (tgt := 97) hx hb dJ0_init_db425_38 (by decide) ?_
  exact hr _ _ _ _ _ _ dJ0_init_db425_97 ⟨rfl, w, by omega, ST.of h0 g1 (fun i hi => (hg1 i hi).trans (hag i hi))⟩ hS (by omega) (by omega)
set_option maxHeartbeats 2000000 in
theorem ch_STinit {G : Gt} {l : Launch} {a b v sz : Nat} {t : List Nat} (hG : AllA G) (hga : gz G ≤ a) (hab : a ≠ b) (hav : a ≠ v) (h : t.length < 2 ^ 26) : CtH G l yJ0_init_81219 cJ0_init_81219 2 none 5 1 (t.length) [.ref a, .ref b] sz (fun q => q = a) (fun U => va_at (gDD G) vwCl (a, .inr (14, [.null, .int 0, .int 0, .int 0])) U.heap ∧ SBs G b v t U.heap) (fun ov H => ov = none ∧ ∃ w, sz ≤ w ∧ ST G a w t H) := by
  refine met_H (by decide +kernel) (Nat.le_of_ble_eq_true rfl) .return_ (Or.inl ⟨rfl, rfl, rfl⟩) ?_
  intro p e s m args below meth c Q ls X hnm hsz hP hr hl
  have hx := X.1.1
  have hb := X.1.2.1
  have hgz : gz G ≤ sz := by rw [← hsz]; exact X.2.1.2.1
  have hA : ∀ q, q < s.heap.size → frA (fun q => q = a) sz q → gA G q := fun q h8 h9 => hG q (by simp only [frA, false_or] at h9; omega)
  have hS : va_S (frA (fun q => q = a) sz) s.heap s.heap [] := va_S.rf
  have hl : lv_has ls 2 [(0, .ref a), (1, .ref b)] := hl
  obtain ⟨h0, f0⟩ := hP
  refine lv_aload_n hx hb dJ0_init_81219_0 rfl (lv_at hl 0 rfl) ?_
  refine lv_aload_n hx hb dJ0_init_81219_1 rfl (lv_at hl 1 rfl) ?_
  refine lv_null hx hb dJ0_init_81219_2 ?_
  refine callH_I (As := [.ref b, .null]) X hS hA (Mv.and (Mv.h _) (Mv.h _)) (fun U hU hv => by rw [hU]; exact ⟨h0, f0⟩) (fun q h9 => by simp only [frA, false_or] at h9 ⊢; have := hS.1; omega) m_4_99 m_4_100 mv_J0_init_db425 rfl (ch_STinit2 (t := t) (v := v) hG hga hab hav h) (by decide) rfl rfl (Nat.le_of_ble_eq_true rfl) hl.1 dJ0_init_81219_3 (by show _ ≤ _; simp only [rmC]; omega) (by show _ ≤ _; simp only [rmC]; omega) fun vH1 H1 locs qH1 zH1 oH1 hS2 => ?_
  have lH1_f0_0 := f0.lt.1
  have lH1_f0_1 := f0.lt.2
  have lH1_h0_0 := h0.lt
  have lH1_0 := hS.1
  replace f0 := f0.kept (oH1 _ lH1_f0_0 (fun h9 => by first | exact h9.elim | omega | (dsimp only at h9; omega))) (oH1 _ lH1_f0_1 (fun h9 => by first | exact h9.elim | omega | (dsimp only at h9; omega)))
  replace hS := hS2; clear hS2 oH1
  clear h0
  obtain ⟨rfl, w, hw, h0⟩ := qH1
  exact hr _ _ _ _ _ _ dJ0_init_81219_6 ⟨rfl, w, by omega, h0⟩ hS (by omega) (by omega)
set_option maxHeartbeats 2000000 in
theorem ch_toString {G : Gt} {l : Launch} {b v sz : Nat} {t : List Nat} (hG : AllA G) (h : t.length < 2 ^ 26) : CtH G l yJ4_toString_0e30d cJ4_toString_0e30d 1 (some (.object "java/lang/String")) 6 2 (t.length + 4) [.ref b] sz (fun _ => False) (fun U => SBs G b v t U.heap) (fun ov H => ∃ a w, ov = some (.ref a) ∧ sz ≤ a ∧ sz ≤ w ∧ ST G a w t H) := by
  refine met_Ha (by decide +kernel) (Nat.le_of_ble_eq_true rfl) rfl (Or.inl ⟨_, rfl⟩) ?_
  intro p e s m args below meth c Q ls X hnm hsz hP hr hl
  have hx := X.1.1
  have hb := X.1.2.1
  have hgz : gz G ≤ sz := by rw [← hsz]; exact X.2.1.2.1
  have hA : ∀ q, q < s.heap.size → frA (fun _ => False) sz q → gA G q := fun q h8 h9 => hG q (by simp only [frA, false_or] at h9; omega)
  have hS : va_S (frA (fun _ => False) sz) s.heap s.heap [] := va_S.rf
  have hl : lv_has ls 1 [(0, .ref b)] := hl
  have f0 := hP
  refine p_new (ci := 14) (fs := [.null, .int 0, .int 0, .int 0]) X inTB_ST tyJ0 tyJ0_ok rfl (by decide +kernel) m_4_94 m_4_95 m_1_7 (by show _ ≤ _; simp only [rmC]; omega) (by show _ ≤ _; simp only [rmC]; omega) dJ4_toString_0e30d_0 fun H2 nH2 zH2 oH2 => ?_
  have lq1_f0_0 := f0.lt.1
  have lq1_f0_1 := f0.lt.2
  have lq1_0 := hS.1
  replace f0 := f0.kept (oH2 _ lq1_f0_0) (oH2 _ lq1_f0_1)
  replace hS := hS.new zH2 oH2
  clear oH2
  generalize hq_q1 : Array.size _ = q1 at nH2 zH2 lq1_0 lq1_f0_0 lq1_f0_1 ⊢
  have fo3 : va_at (gDD G) vwCl (q1, .inr (14, [.null, .int 0, .int 0, .int 0])) H2 := nH2
  clear nH2
  refine lv_dup hx hb dJ4_toString_0e30d_3 rfl ?_
  refine lv_aload_n hx hb dJ4_toString_0e30d_4 rfl (lv_at hl 0 rfl) ?_
  refine callH_I (As := [.ref b]) X hS hA (Mv.and (Mv.h _) (Mv.h _)) (fun U hU hv => by rw [hU]; exact ⟨fo3, f0⟩) (fun q h9 => by simp only [frA, false_or] at h9 ⊢; have := hS.1; omega) m_4_96 m_4_97 mv_J0_init_81219 rfl (ch_STinit (t := t) (v := v) hG (by omega) (by omega) (by omega) h) (by decide) rfl rfl (Nat.le_of_ble_eq_true rfl) hl.1 dJ4_toString_0e30d_5 (by show _ ≤ _; simp only [rmC]; omega) (by show _ ≤ _; simp only [rmC]; omega) fun vH4 H4 locs qH4 zH4 oH4 hS2 => ?_
  have lH4_f0_0 := f0.lt.1
  have lH4_f0_1 := f0.lt.2
  have lH4_fo3_0 := fo3.lt
  have lH4_0 := hS.1
  replace f0 := f0.kept (oH4 _ lH4_f0_0 (fun h9 => by first | exact h9.elim | omega | (dsimp only at h9; omega))) (oH4 _ lH4_f0_1 (fun h9 => by first | exact h9.elim | omega | (dsimp only at h9; omega)))
  replace hS := hS2; clear hS2 oH4
  clear fo3
  obtain ⟨rfl, w, hw, h0⟩ := qH4
  exact hr _ _ _ _ _ _ _ dJ4_toString_0e30d_8 ⟨_, w, rfl, by omega, by omega, h0⟩ hS (by omega) (by omega)
set_option maxHeartbeats 2000000 in
theorem ch_valueOf {G : Gt} {l : Launch} {b v sz : Nat} {t : List Nat} (hG : AllA G) (h : t.length < 2 ^ 26) : CtH G l yJ0_valueOf_8a030 cJ0_valueOf_8a030 1 (some (.object "java/lang/String")) 7 2 (t.length + 4) [.ref b] sz (fun _ => False) (fun U => SBs G b v t U.heap) (fun ov H => ∃ a w, ov = some (.ref a) ∧ sz ≤ a ∧ sz ≤ w ∧ ST G a w t H) := by
  refine met_Ha (by decide +kernel) (Nat.le_of_ble_eq_true rfl) rfl (Or.inl ⟨_, rfl⟩) ?_
  intro p e s m args below meth c Q ls X hnm hsz hP hr hl
  have hx := X.1.1
  have hb := X.1.2.1
  have hgz : gz G ≤ sz := by rw [← hsz]; exact X.2.1.2.1
  have hA : ∀ q, q < s.heap.size → frA (fun _ => False) sz q → gA G q := fun q h8 h9 => hG q (by simp only [frA, false_or] at h9; omega)
  have hS : va_S (frA (fun _ => False) sz) s.heap s.heap [] := va_S.rf
  have hl : lv_has ls 1 [(0, .ref b)] := hl
  have f0 := hP
  refine lv_aload_n hx hb dJ0_valueOf_8a030_0 rfl (lv_at hl 0 rfl) ?_
  refine lv_ifnonnull (tgt := 10) hx hb dJ0_valueOf_8a030_1 (by decide) ?_
  refine lv_aload_n hx hb dJ0_valueOf_8a030_10 rfl (lv_at hl 0 rfl) ?_
  refine callH_X (As := []) X hS hA (Mv.h _) (fun U hU hv => by rw [hU]; exact f0) (fun q h9 => by simp only [frA, false_or] at h9 ⊢; have := hS.1; omega) (p_recv X f0.obj (r := (RJ4, TJ4, 4)) rfl) m_7_35 sl_RJ4_OTS mv_J4_toString_0e30d (by decide) (ch_toString (t := t) (v := v) hG h) (by decide) rfl (Nat.le_of_ble_eq_true rfl) hl.1 dJ0_valueOf_8a030_11 (by show _ ≤ _; simp only [rmC]; omega) (by show _ ≤ _; simp only [rmC]; omega) fun vH1 H1 locs qH1 zH1 oH1 hS2 => ?_
  have lH1_f0_0 := f0.lt.1
  have lH1_f0_1 := f0.lt.2
  have lH1_0 := hS.1
  replace f0 := f0.kept (oH1 _ lH1_f0_0 (fun h9 => by first | exact h9.elim | omega | (dsimp only at h9; omega))) (oH1 _ lH1_f0_1 (fun h9 => by first | exact h9.elim | omega | (dsimp only at h9; omega)))
  replace hS := hS2; clear hS2 oH1
  obtain ⟨a, w, rfl, ha, hw, h0⟩ := qH1
  exact hr _ _ _ _ _ _ _ dJ0_valueOf_8a030_14 ⟨_, w, rfl, by omega, by omega, h0⟩ hS (by omega) (by omega)
set_option maxHeartbeats 2000000 in
theorem ch_appO {G : Gt} {l : Launch} {b v b2 v2 sz : Nat} {t u : List Nat} (hG : AllA G) (hgb : gz G ≤ b) (hgv : gz G ≤ v) (hu : asc u) (h : t.length + u.length < 2 ^ 26) (hbv : b ≠ v) (h1 : b ≠ b2) (h2 : b ≠ v2) (h3 : v ≠ b2) (h4 : v ≠ v2) : CtH G l yJ4_append_533cd cJ4_append_533cd 2 (some (.object "java/lang/StringBuilder")) 8 3 (2 * (t.length + u.length) + u.length + 4) [.ref b, .ref b2] sz (fun q => q = b ∨ q = v) (fun U => SBs G b v t U.heap ∧ SBs G b2 v2 u U.heap) (fun ov H => ov = some (.ref b) ∧ ∃ w, (w = v ∨ sz ≤ w) ∧ SBs G b w (t ++ u) H) := by
  refine met_H (by decide +kernel) (Nat.le_of_ble_eq_true rfl) .areturn (Or.inr (Or.inr ⟨_, .ref b, rfl, Or.inl ⟨_, rfl⟩, Or.inr ⟨_, rfl⟩, rfl, rfl⟩)) ?_
  intro p e s m args below meth c Q ls X hnm hsz hP hr hl
  have hx := X.1.1
  have hb := X.1.2.1
  have hgz : gz G ≤ sz := by rw [← hsz]; exact X.2.1.2.1
  have hA : ∀ q, q < s.heap.size → frA (fun q => q = b ∨ q = v) sz q → gA G q := fun q h8 h9 => hG q (by simp only [frA, false_or] at h9; omega)
  have hS : va_S (frA (fun q => q = b ∨ q = v) sz) s.heap s.heap [] := va_S.rf
  have hl : lv_has ls 2 [(0, .ref b), (1, .ref b2)] := hl
  obtain ⟨f0, f2⟩ := hP
  refine lv_aload_n hx hb dJ4_append_533cd_0 rfl (lv_at hl 0 rfl) ?_
  refine lv_aload_n hx hb dJ4_append_533cd_1 rfl (lv_at hl 1 rfl) ?_
  refine callH_S (As := [.ref b2]) X hS hA (Mv.h _) (fun U hU hv => by rw [hU]; exact f2) (fun q h9 => by simp only [frA, false_or] at h9 ⊢; have := hS.1; omega) m_7_30 m_7_31 mv_J0_valueOf_8a030 (ch_valueOf (t := u) (v := v2) hG (by omega)) (by decide) rfl rfl (Nat.le_of_ble_eq_true rfl) hl.1 dJ4_append_533cd_2 (by show _ ≤ _; simp only [rmC]; omega) (by show _ ≤ _; simp only [rmC]; omega) fun vH1 H1 locs qH1 zH1 oH1 hS2 => ?_
  have lH1_f0_0 := f0.lt.1
  have lH1_f0_1 := f0.lt.2
  have lH1_f2_0 := f2.lt.1
  have lH1_f2_1 := f2.lt.2
  have lH1_0 := hS.1
  replace f0 := f0.kept (oH1 _ lH1_f0_0 (fun h9 => by first | exact h9.elim | omega | (dsimp only at h9; omega))) (oH1 _ lH1_f0_1 (fun h9 => by first | exact h9.elim | omega | (dsimp only at h9; omega)))
  replace f2 := f2.kept (oH1 _ lH1_f2_0 (fun h9 => by first | exact h9.elim | omega | (dsimp only at h9; omega))) (oH1 _ lH1_f2_1 (fun h9 => by first | exact h9.elim | omega | (dsimp only at h9; omega)))
  replace hS := hS2; clear hS2 oH1
  obtain ⟨a, w2, rfl, ha, hw2, h0⟩ := qH1
  have hsf := ST.SF X.2.1.1 (TB_warm (State.WarmedH.refl s) X.1.2.2.2.2) h0
  refine callH_V (As := [.ref a]) X hS hA (Mv.and (Mv.h fun K => SBs G b v t K) SF.mv) (fun U hU hv => by rw [hU]; exact ⟨f0, hsf.moved hv⟩) (fun q h9 => by simp only [frA, false_or] at h9 ⊢; have := hS.1; omega) (p_recv X f0.obj (r := (RJ4, TJ4, 4)) rfl) m_7_107 m_3_202 m_3_203 mv_J4_append_15ec4 (ch_app (t := t) (u := u) (v := v) (bt := w2) hG hgb hgv hu (by omega) hbv (by omega) (by omega) (by omega) (by omega)) (by decide) rfl rfl (Nat.le_of_ble_eq_true rfl) hl.1 dJ4_append_533cd_5 (by show _ ≤ _; simp only [rmC]; omega) (by show _ ≤ _; simp only [rmC]; omega) fun vH2 H2 locs qH2 zH2 oH2 hS2 => ?_
  have lH2_f0_0 := f0.lt.1
  have lH2_f0_1 := f0.lt.2
  have lH2_f2_0 := f2.lt.1
  have lH2_f2_1 := f2.lt.2
  have lH2_h0_0 := h0.lt.1
  have lH2_h0_1 := h0.lt.2
  have lH2_0 := hS.1
  replace f2 := f2.kept (oH2 _ lH2_f2_0 (fun h9 => by first | exact h9.elim | omega | (dsimp only at h9; omega))) (oH2 _ lH2_f2_1 (fun h9 => by first | exact h9.elim | omega | (dsimp only at h9; omega)))
  replace h0 := h0.kept (oH2 _ lH2_h0_0 (fun h9 => by first | exact h9.elim | omega | (dsimp only at h9; omega))) (oH2 _ lH2_h0_1 (fun h9 => by first | exact h9.elim | omega | (dsimp only at h9; omega)))
  replace hS := hS2; clear hS2 oH2
  clear f0
  obtain ⟨rfl, w, hw, f0⟩ := qH2
  exact hr _ _ _ _ _ _ dJ4_append_533cd_8 ⟨rfl, w, by omega, f0⟩ hS (by omega) (by omega)
set_option maxHeartbeats 2000000 in
theorem ch_ASBinitS {G : Gt} {l : Launch} {b a bt sz : Nat} {u : List Nat} (hG : AllA G) (hgb : gz G ≤ b) (hu : asc u) (h : u.length ≤ 48) (hba : b ≠ a) (hbb : b ≠ bt) : CtH G l yJ5_init_a7421 cJ5_init_a7421 5 none 8 2 (3 * u.length + 16) [.ref b, .ref a] sz (fun q => q = b) (fun U => va_at (gDD G) vwCl (b, .inr (13, [.null, .int 0, .int 0, .int 0])) U.heap ∧ SF a bt u U U.heap) (fun ov H => ov = none ∧ ∃ w, sz ≤ w ∧ SBs G b w u H) := by
  refine met_H (by decide +kernel) (Nat.le_of_ble_eq_true rfl) .return_ (Or.inl ⟨rfl, rfl, rfl⟩) ?_
  intro p e s m args below meth c Q ls X hnm hsz hP hr hl
  have hx := X.1.1
  have hb := X.1.2.1
  have hgz : gz G ≤ sz := by rw [← hsz]; exact X.2.1.2.1
  have hA : ∀ q, q < s.heap.size → frA (fun q => q = b) sz q → gA G q := fun q h8 h9 => hG q (by simp only [frA, false_or] at h9; omega)
  have hS : va_S (frA (fun q => q = b) sz) s.heap s.heap [] := va_S.rf
  have hl : lv_has ls 5 [(0, .ref b), (1, .ref a)] := hl
  obtain ⟨f0, g0⟩ := hP
  refine lv_aload_n hx hb dJ5_init_a7421_0 rfl (lv_at hl 0 rfl) ?_
  refine p_obj X m_3_178 (by decide) (Nat.le_of_ble_eq_true rfl) hl.1 dJ5_init_a7421_1 ?_
  refine lv_aload_n hx hb dJ5_init_a7421_4 rfl (lv_at hl 1 rfl) ?_
  refine callP_R (As := []) X hS hA (SF.mv) (fun U hU hv => by rw [hU]; exact g0.moved hv) (by obtain ⟨cell, h1, h2, h3, -⟩ := g0.1; exact ⟨cell, h1, h2, h3⟩) m_4_30 m_3_153 m_3_154 mv_J0_length_8abf5 (cp_length (t := u) (b := bt)) (by decide) rfl rfl (Nat.le_of_ble_eq_true rfl) hl.1 dJ5_init_a7421_5 (by show _ ≤ _; simp only [rmC]; omega) (by show _ ≤ _; simp only [rmC]; omega) ?_
  refine lv_istore_n (lv' := [(2, .int (nI u.length)), (0, .ref b), (1, .ref a)]) hx hb dJ5_init_a7421_8 rfl hl (by decide) rfl ?_
  clear hl; intro ls hl
  refine lv_iload_n hx hb dJ5_init_a7421_9 rfl (lv_at hl 0 rfl) ?_
  refine lv_ldc (v := 2147483631) hx hb X.1.2.2.2.1 (X.1.2.2.2.2 _ m_7_115) dJ5_init_a7421_10 ?_
  refine lv_icmp_ge (tgt := 22) hx hb dJ5_init_a7421_12 (by decide) (fun hc => absurd hc (nI_ge (b := 2147483631) (by omega) (by omega))) (fun _ => ?_)
  refine lv_iload_n hx hb dJ5_init_a7421_15 rfl (lv_at hl 0 rfl) ?_
  refine lv_bipush (v := 16) hx hb dJ5_init_a7421_16 (by decide) ?_
  refine lv_iadd hx hb dJ5_init_a7421_18 ?_
  refine lv_to (y := nI (u.length + 16)) (nI_add _ 16) ?_
  refine lv_goto (tgt := 24) hx hb dJ5_init_a7421_19 (by decide) ?_
  refine lv_istore_n (lv' := [(3, .int (nI (u.length + 16))), (2, .int (nI u.length)), (0, .ref b), (1, .ref a)]) hx hb dJ5_init_a7421_24 rfl hl (by decide) rfl ?_
  clear hl; intro ls hl
  refine lv_aload_n hx hb dJ5_init_a7421_25 rfl (lv_at hl 3 rfl) ?_
  refine callP_R (As := []) X hS hA (SF.mv) (fun U hU hv => by rw [hU]; exact g0.moved hv) (by obtain ⟨cell, h1, h2, h3, -⟩ := g0.1; exact ⟨cell, h1, h2, h3⟩) m_4_39 m_3_157 m_3_158 mv_J0_coder_7d493 (cp_coder (t := u) (b := bt)) (by decide) rfl rfl (Nat.le_of_ble_eq_true rfl) hl.1 dJ5_init_a7421_26 (by show _ ≤ _; simp only [rmC]; omega) (by show _ ≤ _; simp only [rmC]; omega) ?_
  refine lv_istore (lv' := [(4, .int 0), (3, .int (nI (u.length + 16))), (2, .int (nI u.length)), (0, .ref b), (1, .ref a)]) hx hb dJ5_init_a7421_29 hl (by decide) rfl ?_
  clear hl; intro ls hl
  refine lv_aload_n hx hb dJ5_init_a7421_31 rfl (lv_at hl 3 rfl) ?_
  refine lv_iload hx hb dJ5_init_a7421_32 (lv_at hl 0 rfl) ?_
  refine p_put (T := TJ4) (N := 4) (k := 1) (ty := .byte) X f0 inTB_SB tyJ4 tyJ4_ok nmJ4 rfl (by decide) m_3_188 (fun hq => by cases hq) (by decide +kernel) rfl rfl (Nat.le_of_ble_eq_true rfl) dJ5_init_a7421_34 fun H1 kH1 nH1 zH1 oH1 => ?_
  replace g0 := g0.kept (oH1 _ (by omega)) (oH1 _ (by omega))
  replace hS := hS.put (k := kH1) zH1 oH1 (Or.inl rfl)
  replace f0 : va_at (gDD G) vwCl (b, .inr (13, [.null, .int 0, .int 0, .int 0])) H1 := nH1
  clear zH1 oH1
  refine lv_aload_n hx hb dJ5_init_a7421_37 rfl (lv_at hl 3 rfl) ?_
  refine lv_iload hx hb dJ5_init_a7421_38 (lv_at hl 0 rfl) ?_
  refine lv_if_ne (tgt := 49) hx hb dJ5_init_a7421_40 (by decide) (fun hc => absurd rfl hc) (fun _ => ?_)
  refine lv_iload_n hx hb dJ5_init_a7421_43 rfl (lv_at hl 1 rfl) ?_
  refine p_newa (atype := .byte) (ty := .byte) (t := 7) (N := (u.length + 16)) (a0 := ((u.length + 16), .inl (fun _ => 0))) X m_3_200 rfl rfl (fun _ h => by cases h) rfl (nI_pos (by omega)) (nI_clamp (by omega)) (by show _ * 1 ≤ _; omega) (by show _ ≤ _; simp only [rmC]; omega) (by show _ ≤ _; simp only [rmC]; omega) dJ5_init_a7421_44 fun H3 nH3 zH3 oH3 => ?_
  have lq2_f0_0 := f0.lt
  have lq2_g0_0 := g0.lt.1
  have lq2_g0_1 := g0.lt.2
  have lq2_0 := hS.1
  replace f0 := f0.kept (oH3 _ lq2_f0_0)
  replace g0 := g0.kept (oH3 _ lq2_g0_0) (oH3 _ lq2_g0_1)
  replace hS := hS.new zH3 oH3
  clear oH3
  generalize hq_q2 : Array.size _ = q2 at nH3 zH3 lq2_0 lq2_f0_0 lq2_g0_0 lq2_g0_1 ⊢
  have fa4 : va_at (gDD G) vwCl (q2, .inl (gty G 7, (u.length + 16), .inl (fun _ => 0))) H3 := nH3
  clear nH3
  refine lv_goto (tgt := 53) hx hb dJ5_init_a7421_46 (by decide) ?_
  refine p_put (T := TJ4) (N := 4) (k := 0) (ty := .array .byte) X f0 inTB_SB tyJ4 tyJ4_ok nmJ4 rfl (by decide) m_3_187 (fun hq => by cases hq) (by decide +kernel) rfl rfl (Nat.le_of_ble_eq_true rfl) dJ5_init_a7421_53 fun H5 kH5 nH5 zH5 oH5 => ?_
  replace g0 := g0.kept (oH5 _ (by omega)) (oH5 _ (by omega))
  replace fa4 := fa4.kept (oH5 _ (by omega))
  replace hS := hS.put (k := kH5) zH5 oH5 (Or.inl rfl)
  replace f0 : va_at (gDD G) vwCl (b, .inr (13, [.ref q2, .int 0, .int 0, .int 0])) H5 := nH5
  clear zH5 oH5
  refine lv_aload_n hx hb dJ5_init_a7421_56 rfl (lv_at hl 3 rfl) ?_
  refine lv_aload_n hx hb dJ5_init_a7421_57 rfl (lv_at hl 4 rfl) ?_
  have hsb : SBs G b q2 [] _ := ⟨_, _, ⟨f0, fa4⟩, (fun i hi => absurd hi (Nat.not_lt_zero i)), bfit0, Nat.zero_le _, (by show u.length + 16 ≤ 64; omega)⟩
  have hz0 : ([] : List Nat).length = 0 := rfl
  refine callH_X (As := [.ref a]) X hS hA (Mv.and (Mv.h fun K => SBs G b q2 [] K) SF.mv) (fun U hU hv => by rw [hU]; exact ⟨hsb, g0.moved hv⟩) (fun q h9 => by simp only [frA, false_or] at h9 ⊢; have := hS.1; omega) (p_recv X hsb.obj (r := (RJ4, TJ4, 4)) rfl) m_7_116 sl_RJ4_J5_append_cf1ce mv_J4_append_cf1ce (by decide) (ch_appB (t := []) (u := u) (v := q2) (bt := bt) hG hgb (by omega) hu (by show 0 + u.length < _; omega) (by omega) hba hbb (by omega) (by omega)) (by decide) rfl (Nat.le_of_ble_eq_true rfl) hl.1 dJ5_init_a7421_58 (by show _ ≤ _; simp only [rmC]; omega) (by show _ ≤ _; simp only [rmC]; omega) fun vH6 H6 locs qH6 zH6 oH6 hS2 => ?_
  have lH6_g0_0 := g0.lt.1
  have lH6_g0_1 := g0.lt.2
  have lH6_hsb_0 := hsb.lt.1
  have lH6_hsb_1 := hsb.lt.2
  have lH6_0 := hS.1
  replace g0 := g0.kept (oH6 _ lH6_g0_0 (fun h9 => by first | exact h9.elim | omega | (dsimp only at h9; omega))) (oH6 _ lH6_g0_1 (fun h9 => by first | exact h9.elim | omega | (dsimp only at h9; omega)))
  replace hS := hS2; clear hS2 oH6
  clear hsb
  obtain ⟨rfl, w, hw, f0⟩ := qH6
  refine lv_pop hx hb dJ5_init_a7421_61 rfl ?_
  exact hr _ _ _ _ _ _ dJ5_init_a7421_62 ⟨rfl, w, by omega, f0⟩ hS (by omega) (by omega)
set_option maxHeartbeats 2000000 in
theorem ch_SBinitS {G : Gt} {l : Launch} {b a bt sz : Nat} {u : List Nat} (hG : AllA G) (hgb : gz G ≤ b) (hu : asc u) (h : u.length ≤ 48) (hba : b ≠ a) (hbb : b ≠ bt) : CtH G l yJ4_init_a7421 cJ4_init_a7421 2 none 9 2 (3 * u.length + 16) [.ref b, .ref a] sz (fun q => q = b) (fun U => va_at (gDD G) vwCl (b, .inr (13, [.null, .int 0, .int 0, .int 0])) U.heap ∧ SF a bt u U U.heap) (fun ov H => ov = none ∧ ∃ w, sz ≤ w ∧ SBs G b w u H) := by
  refine met_H (by decide +kernel) (Nat.le_of_ble_eq_true rfl) .return_ (Or.inl ⟨rfl, rfl, rfl⟩) ?_
  intro p e s m args below meth c Q ls X hnm hsz hP hr hl
  have hx := X.1.1
  have hb := X.1.2.1
  have hgz : gz G ≤ sz := by rw [← hsz]; exact X.2.1.2.1
  have hA : ∀ q, q < s.heap.size → frA (fun q => q = b) sz q → gA G q := fun q h8 h9 => hG q (by simp only [frA, false_or] at h9; omega)
  have hS : va_S (frA (fun q => q = b) sz) s.heap s.heap [] := va_S.rf
  have hl : lv_has ls 2 [(0, .ref b), (1, .ref a)] := hl
  obtain ⟨f0, g0⟩ := hP
  refine lv_aload_n hx hb dJ4_init_a7421_0 rfl (lv_at hl 0 rfl) ?_
  refine lv_aload_n hx hb dJ4_init_a7421_1 rfl (lv_at hl 1 rfl) ?_
  refine callH_I (As := [.ref a]) X hS hA (Mv.and (Mv.h fun K => va_at (gDD G) vwCl (b, .inr (13, [.null, .int 0, .int 0, .int 0])) K) SF.mv) (fun U hU hv => by rw [hU]; exact ⟨f0, g0.moved hv⟩) (fun q h9 => by simp only [frA, false_or] at h9 ⊢; have := hS.1; omega) m_7_112 m_7_113 mv_J5_init_a7421 rfl (ch_ASBinitS (u := u) (bt := bt) hG hgb hu h hba hbb) (by decide) rfl rfl (Nat.le_of_ble_eq_true rfl) hl.1 dJ4_init_a7421_2 (by show _ ≤ _; simp only [rmC]; omega) (by show _ ≤ _; simp only [rmC]; omega) fun vH1 H1 locs qH1 zH1 oH1 hS2 => ?_
  have lH1_f0_0 := f0.lt
  have lH1_g0_0 := g0.lt.1
  have lH1_g0_1 := g0.lt.2
  have lH1_0 := hS.1
  replace g0 := g0.kept (oH1 _ lH1_g0_0 (fun h9 => by first | exact h9.elim | omega | (dsimp only at h9; omega))) (oH1 _ lH1_g0_1 (fun h9 => by first | exact h9.elim | omega | (dsimp only at h9; omega)))
  replace hS := hS2; clear hS2 oH1
  clear f0
  obtain ⟨rfl, w, hw, f0⟩ := qH1
  exact hr _ _ _ _ _ _ dJ4_init_a7421_5 ⟨rfl, w, by omega, f0⟩ hS (by omega) (by omega)
